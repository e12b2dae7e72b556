theorem zwide : FP.Core.b64.qmin = -1074 := FP.Core.qmin_b64
