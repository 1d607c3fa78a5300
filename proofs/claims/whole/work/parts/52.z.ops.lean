/-! what the law asks of each call -/
theorem ob0 : opB0 Inv := fun c σX σM a1 a2 a3 a4 a5 hc h => o0 a1 a2 a3 a4 a5 h
theorem ob1 : opB1 Inv := fun c σX σM a1 hc h => o1 a1 h
theorem ob2 : opB2 Inv := fun c σX σM a1 hc h => o2 a1 h
theorem ob3 : opB3 Inv := fun c σX σM a1 hc h => o3 a1 h
theorem ob4 : opB4 Inv := fun c σX σM a1 hc h => o4 a1 h
theorem ob5 : opB5 Inv := fun c σX σM a1 a2 hc h => o5 a1 a2 h
theorem ob6 : opB6 Inv := fun c σX σM a1 a2 hc h => o6 a1 a2 h
theorem ob7 : opB7 Inv := fun c σX σM a1 hc h => o7 a1 h
theorem ob8 : opB8 Inv := fun c σX σM a1 hc h => o8 a1 h
theorem ob9 : opB9 Inv := fun c σX σM a1 a2 hc h => o9 a1 a2 h
theorem ob10 : opB10 Inv := fun c σX σM a1 a2 hc h => o10 a1 a2 h
theorem ob11 : opB11 Inv := fun c σX σM a1 hc h => o11 hc a1 h
theorem ob12 : opB12 Inv := fun c σX σM a1 a2 a3 hc h => o12 a1 a2 a3 h
theorem ob13 : opB13 Inv := fun c σX σM a1 a2 hc h => o13 a1 a2 h
theorem ob14 : opB14 Inv := fun c σX σM a1 a2 hc h => op_act hc h (k := 0) (by decide) a1 a2 0 0
theorem ob15 : opB15 Inv := fun c σX σM a1 hc h => op_act hc h (k := 1) (by decide) a1 0 0 0
theorem ob16 : opB16 Inv := fun c σX σM a1 hc h => op_act hc h (k := 2) (by decide) a1 0 0 0
theorem ob17 : opB17 Inv := fun c σX σM a1 a2 hc h => op_act hc h (k := 3) (by decide) a1 a2 0 0
theorem ob18 : opB18 Inv := fun c σX σM a1 hc h => op_act hc h (k := 4) (by decide) a1 0 0 0
theorem ob19 : opB19 Inv := fun c σX σM a1 a2 a3 a4 hc h => op_act hc h (k := 5) (by decide) a1 a2 a3 a4
theorem ob20 : opB20 Inv := fun c σX σM a1 a2 a3 hc h => op_act hc h (k := 6) (by decide) a1 a2 a3 0
theorem ob21 : opB21 Inv := fun c σX σM  hc h => op_act hc h (k := 7) (by decide) 0 0 0 0
theorem ob22 : opB22 Inv := fun c σX σM a1 a2 a3 a4 hc h => op_act hc h (k := 8) (by decide) a1 a2 a3 a4
theorem ob23 : opB23 Inv := fun c σX σM a1 a2 hc h => o23 hc a1 a2 h
theorem ob24 : opB24 Inv := fun c σX σM a1 hc h => o24 a1 h
theorem ob25 : opB25 Inv := fun c σX σM  hc h => o25 hc  h
theorem ob26 : opB26 Inv := fun c σX σM a1 a2 hc h => o26 hc a1 a2 h
theorem ob27 : opB27 Inv := fun c σX σM a1 a2 hc h => o27 a1 a2 h
theorem ob28 : opB28 Inv := fun c σX σM a1 a2 a3 a4 a5 hc h => o28 a1 a2 a3 a4 a5 h
theorem ob29 : opB29 Inv := fun c σX σM a1 a2 hc h => o29 a1 a2 h
theorem ob30 : opB30 Inv := fun c σX σM  hc h => o30  h
theorem ob31 : opB31 Inv := fun c σX σM a1 hc h => o31 a1 h
theorem ob32 : opB32 Inv := fun c σX σM  hc h => o32  h
theorem ob33 : opB33 Inv := fun c σX σM a1 hc h => o33 a1 h
theorem ob34 : opB34 Inv := fun c σX σM  hc h => o34  h
theorem ob35 : opB35 Inv := fun c σX σM a1 hc h => o35 a1 h
theorem ob36 : opB36 Inv := fun c σX σM  hc h => o36  h
theorem ob37 : opB37 Inv := fun c σX σM a1 hc h => o37 a1 h
theorem ob38 : opB38 Inv := fun c σX σM a1 a2 hc h => o38 a1 a2 h
theorem ob39 : opB39 Inv := fun c σX σM a1 a2 a3 hc h => o39 a1 a2 a3 h
theorem ob40 : opB40 Inv := fun c σX σM a1 a2 hc h => o40 a1 a2 h
theorem ob41 : opB41 Inv := fun c σX σM a1 hc h => o41 hc a1 h
theorem ob42 : opB42 Inv := fun c σX σM a1 hc h => o42 a1 h
theorem ob43 : opB43 Inv := fun c σX σM  hc h => o43 hc  h
theorem ob44 : opB44 Inv := fun c σX σM  hc h => o44 hc  h
theorem ob45 : opB45 Inv := fun c σX σM a1 hc h => o45 hc a1 h
