/-! which tests and actions there may be -/
def tOK (k a : Int32) : Prop := leafOK k a ∨ k = 33 ∨ k = 38 ∨ k = 124
theorem al_1 {k a : Int32} {h : Hp} {Q : Int32 → Prop} (o : tOK k a) : wp_X9_allows k a h Q = Q 1 := by
  by_cases e33 : k = 33
  · subst e33; simp [wp_X9_allows]
  by_cases e38 : k = 38
  · subst e38; simp [wp_X9_allows]
  by_cases e97 : k = 97
  · subst e97; simp [wp_X9_allows]
  by_cases e124 : k = 124
  · subst e124; simp [wp_X9_allows]
  by_cases e98 : k = 98
  · subst e98
    have q : inN a 16 := by simpa [tOK, leafOK] using o
    simp [wp_X9_allows, b16_1 q]
  by_cases e100 : k = 100
  · subst e100
    have q : inN a 7 := by simpa [tOK, leafOK] using o
    simp [wp_X9_allows, b7_1 q]
  by_cases e102 : k = 102
  · subst e102
    have q : inN a 10 := by simpa [tOK, leafOK] using o
    simp [wp_X9_allows, b10_1 q]
  by_cases e107 : k = 107
  · subst e107
    have q : inN a 8 := by simpa [tOK, leafOK] using o
    simp [wp_X9_allows, b8_1 q]
  by_cases e110 : k = 110
  · subst e110
    have q : inZ a 1 10 := by simpa [tOK, leafOK] using o
    simp [wp_X9_allows, lies_1 q]
  by_cases e115 : k = 115
  · subst e115
    have q : inN a 16 := by simpa [tOK, leafOK] using o
    simp [wp_X9_allows, b16_1 q]
  by_cases e116 : k = 116
  · subst e116
    have q : inN a 10 := by simpa [tOK, leafOK] using o
    simp [wp_X9_allows, b10_1 q]
  by_cases e122 : k = 122
  · subst e122
    have q : inN a 1000 := by simpa [tOK, leafOK] using o
    simp [wp_X9_allows, y1000_1 q]
  · exact absurd o (by simp [tOK, leafOK, e33, e38, e97, e124, e98, e100, e102, e107, e110, e115, e116, e122])
theorem al_0 {k a : Int32} {h : Hp} {Q : Int32 → Prop} (o : ¬ tOK k a) : wp_X9_allows k a h Q = Q 0 := by
  by_cases e33 : k = 33
  · subst e33; exact absurd (by simp [tOK, leafOK]) o
  by_cases e38 : k = 38
  · subst e38; exact absurd (by simp [tOK, leafOK]) o
  by_cases e97 : k = 97
  · subst e97; exact absurd (by simp [tOK, leafOK]) o
  by_cases e124 : k = 124
  · subst e124; exact absurd (by simp [tOK, leafOK]) o
  by_cases e98 : k = 98
  · subst e98
    have q : ¬ inN a 16 := by simpa [tOK, leafOK] using o
    simp [wp_X9_allows, b16_0 q]
  by_cases e100 : k = 100
  · subst e100
    have q : ¬ inN a 7 := by simpa [tOK, leafOK] using o
    simp [wp_X9_allows, b7_0 q]
  by_cases e102 : k = 102
  · subst e102
    have q : ¬ inN a 10 := by simpa [tOK, leafOK] using o
    simp [wp_X9_allows, b10_0 q]
  by_cases e107 : k = 107
  · subst e107
    have q : ¬ inN a 8 := by simpa [tOK, leafOK] using o
    simp [wp_X9_allows, b8_0 q]
  by_cases e110 : k = 110
  · subst e110
    have q : ¬ inZ a 1 10 := by simpa [tOK, leafOK] using o
    simp [wp_X9_allows, lies_0 q]
  by_cases e115 : k = 115
  · subst e115
    have q : ¬ inN a 16 := by simpa [tOK, leafOK] using o
    simp [wp_X9_allows, b16_0 q]
  by_cases e116 : k = 116
  · subst e116
    have q : ¬ inN a 10 := by simpa [tOK, leafOK] using o
    simp [wp_X9_allows, b10_0 q]
  by_cases e122 : k = 122
  · subst e122
    have q : ¬ inN a 1000 := by simpa [tOK, leafOK] using o
    simp [wp_X9_allows, y1000_0 q]
  · simp [wp_X9_allows, e33, e38, e97, e124, e98, e100, e102, e107, e110, e115, e116, e122]
theorem to_1 {k a : Int32} {h : Hp} {Q : Int32 → Prop} (o : tOK k a) : wp_X11_isTold k a h Q = Q 1 := by
  by_cases e33 : k = 33
  · subst e33; simp [wp_X11_isTold, wp_X11_isPair]
  by_cases e38 : k = 38
  · subst e38; simp [wp_X11_isTold, wp_X11_isPair]
  by_cases e97 : k = 97
  · subst e97; simp [wp_X11_isTold, wp_X11_isPair]
  by_cases e124 : k = 124
  · subst e124; simp [wp_X11_isTold, wp_X11_isPair]
  by_cases e98 : k = 98
  · subst e98
    have q : inN a 16 := by simpa [tOK, leafOK] using o
    simp [wp_X11_isTold, wp_X11_isPair, i16_1 q]
  by_cases e100 : k = 100
  · subst e100
    have q : inN a 7 := by simpa [tOK, leafOK] using o
    simp [wp_X11_isTold, wp_X11_isPair, i7_1 q]
  by_cases e102 : k = 102
  · subst e102
    have q : inN a 10 := by simpa [tOK, leafOK] using o
    simp [wp_X11_isTold, wp_X11_isPair, i10_1 q]
  by_cases e107 : k = 107
  · subst e107
    have q : inN a 8 := by simpa [tOK, leafOK] using o
    simp [wp_X11_isTold, wp_X11_isPair, i8_1 q]
  by_cases e110 : k = 110
  · subst e110
    have q : inZ a 1 10 := by simpa [tOK, leafOK] using o
    simp [wp_X11_isTold, wp_X11_isPair, in_1 q]
  by_cases e115 : k = 115
  · subst e115
    have q : inN a 16 := by simpa [tOK, leafOK] using o
    simp [wp_X11_isTold, wp_X11_isPair, i16_1 q]
  by_cases e116 : k = 116
  · subst e116
    have q : inN a 10 := by simpa [tOK, leafOK] using o
    simp [wp_X11_isTold, wp_X11_isPair, i10_1 q]
  by_cases e122 : k = 122
  · subst e122
    have q : inN a 1000 := by simpa [tOK, leafOK] using o
    simp [wp_X11_isTold, wp_X11_isPair, i1000_1 q]
  · exact absurd o (by simp [tOK, leafOK, e33, e38, e97, e124, e98, e100, e102, e107, e110, e115, e116, e122])
theorem to_0 {k a : Int32} {h : Hp} {Q : Int32 → Prop} (o : ¬ tOK k a) : wp_X11_isTold k a h Q = Q 0 := by
  by_cases e33 : k = 33
  · subst e33; exact absurd (by simp [tOK, leafOK]) o
  by_cases e38 : k = 38
  · subst e38; exact absurd (by simp [tOK, leafOK]) o
  by_cases e97 : k = 97
  · subst e97; exact absurd (by simp [tOK, leafOK]) o
  by_cases e124 : k = 124
  · subst e124; exact absurd (by simp [tOK, leafOK]) o
  by_cases e98 : k = 98
  · subst e98
    have q : ¬ inN a 16 := by simpa [tOK, leafOK] using o
    simp [wp_X11_isTold, wp_X11_isPair, i16_0 q]
  by_cases e100 : k = 100
  · subst e100
    have q : ¬ inN a 7 := by simpa [tOK, leafOK] using o
    simp [wp_X11_isTold, wp_X11_isPair, i7_0 q]
  by_cases e102 : k = 102
  · subst e102
    have q : ¬ inN a 10 := by simpa [tOK, leafOK] using o
    simp [wp_X11_isTold, wp_X11_isPair, i10_0 q]
  by_cases e107 : k = 107
  · subst e107
    have q : ¬ inN a 8 := by simpa [tOK, leafOK] using o
    simp [wp_X11_isTold, wp_X11_isPair, i8_0 q]
  by_cases e110 : k = 110
  · subst e110
    have q : ¬ inZ a 1 10 := by simpa [tOK, leafOK] using o
    simp [wp_X11_isTold, wp_X11_isPair, in_0 q]
  by_cases e115 : k = 115
  · subst e115
    have q : ¬ inN a 16 := by simpa [tOK, leafOK] using o
    simp [wp_X11_isTold, wp_X11_isPair, i16_0 q]
  by_cases e116 : k = 116
  · subst e116
    have q : ¬ inN a 10 := by simpa [tOK, leafOK] using o
    simp [wp_X11_isTold, wp_X11_isPair, i10_0 q]
  by_cases e122 : k = 122
  · subst e122
    have q : ¬ inN a 1000 := by simpa [tOK, leafOK] using o
    simp [wp_X11_isTold, wp_X11_isPair, i1000_0 q]
  · simp [wp_X11_isTold, wp_X11_isPair, e33, e38, e97, e124, e98, e100, e102, e107, e110, e115, e116, e122]
theorem aa_1 {k a : Int32} {h : Hp} {Q : Int32 → Prop} (o : SaV k a) : wp_X6_allows k a h Q = Q 1 := by
  by_cases e83 : k = 83
  · subst e83; simp [wp_X6_allows]
  by_cases e107 : k = 107
  · subst e107; simp [wp_X6_allows]
  by_cases e114 : k = 114
  · subst e114; simp [wp_X6_allows]
  by_cases e115 : k = 115
  · subst e115; simp [wp_X6_allows]
  by_cases e120 : k = 120
  · subst e120; simp [wp_X6_allows]
  by_cases e70 : k = 70
  · subst e70
    have q : inN a 8 := by simpa [SaV] using o
    simp [wp_X6_allows, b8_1 q]
  by_cases e85 : k = 85
  · subst e85
    have q : inN a 8 := by simpa [SaV] using o
    simp [wp_X6_allows, b8_1 q]
  by_cases e99 : k = 99
  · subst e99
    have q : inN a 8 := by simpa [SaV] using o
    simp [wp_X6_allows, b8_1 q]
  by_cases e105 : k = 105
  · subst e105
    have q : inN a 4 := by simpa [SaV] using o
    simp [wp_X6_allows, b4_1 q]
  by_cases e109 : k = 109
  · subst e109
    have q : inN a 8 := by simpa [SaV] using o
    simp [wp_X6_allows, b8_1 q]
  by_cases e118 : k = 118
  · subst e118
    have q : inZ a 1 30 := by simpa [SaV] using o
    simp [wp_X6_allows, lies_1 q]
  by_cases e119 : k = 119
  · subst e119
    have q : inN a 10 := by simpa [SaV] using o
    simp [wp_X6_allows, b10_1 q]
  · exact absurd o (by simp [SaV, e83, e107, e114, e115, e120, e70, e85, e99, e105, e109, e118, e119])
theorem aa_0 {k a : Int32} {h : Hp} {Q : Int32 → Prop} (o : ¬ SaV k a) : wp_X6_allows k a h Q = Q 0 := by
  by_cases e83 : k = 83
  · subst e83; exact absurd (by simp [SaV]) o
  by_cases e107 : k = 107
  · subst e107; exact absurd (by simp [SaV]) o
  by_cases e114 : k = 114
  · subst e114; exact absurd (by simp [SaV]) o
  by_cases e115 : k = 115
  · subst e115; exact absurd (by simp [SaV]) o
  by_cases e120 : k = 120
  · subst e120; exact absurd (by simp [SaV]) o
  by_cases e70 : k = 70
  · subst e70
    have q : ¬ inN a 8 := by simpa [SaV] using o
    simp [wp_X6_allows, b8_0 q]
  by_cases e85 : k = 85
  · subst e85
    have q : ¬ inN a 8 := by simpa [SaV] using o
    simp [wp_X6_allows, b8_0 q]
  by_cases e99 : k = 99
  · subst e99
    have q : ¬ inN a 8 := by simpa [SaV] using o
    simp [wp_X6_allows, b8_0 q]
  by_cases e105 : k = 105
  · subst e105
    have q : ¬ inN a 4 := by simpa [SaV] using o
    simp [wp_X6_allows, b4_0 q]
  by_cases e109 : k = 109
  · subst e109
    have q : ¬ inN a 8 := by simpa [SaV] using o
    simp [wp_X6_allows, b8_0 q]
  by_cases e118 : k = 118
  · subst e118
    have q : ¬ inZ a 1 30 := by simpa [SaV] using o
    simp [wp_X6_allows, lies_0 q]
  by_cases e119 : k = 119
  · subst e119
    have q : ¬ inN a 10 := by simpa [SaV] using o
    simp [wp_X6_allows, b10_0 q]
  · simp [wp_X6_allows, e83, e107, e114, e115, e120, e70, e85, e99, e105, e109, e118, e119]
theorem ia_1 {k a : Int32} {h : Hp} {Q : Int32 → Prop} (o : SaV k a) : wp_X11_isAction k a h Q = Q 1 := by
  by_cases e83 : k = 83
  · subst e83; simp [wp_X11_isAction]
  by_cases e107 : k = 107
  · subst e107; simp [wp_X11_isAction]
  by_cases e114 : k = 114
  · subst e114; simp [wp_X11_isAction]
  by_cases e115 : k = 115
  · subst e115; simp [wp_X11_isAction]
  by_cases e120 : k = 120
  · subst e120; simp [wp_X11_isAction]
  by_cases e70 : k = 70
  · subst e70
    have q : inN a 8 := by simpa [SaV] using o
    simp [wp_X11_isAction, i8_1 q]
  by_cases e85 : k = 85
  · subst e85
    have q : inN a 8 := by simpa [SaV] using o
    simp [wp_X11_isAction, i8_1 q]
  by_cases e99 : k = 99
  · subst e99
    have q : inN a 8 := by simpa [SaV] using o
    simp [wp_X11_isAction, i8_1 q]
  by_cases e105 : k = 105
  · subst e105
    have q : inN a 4 := by simpa [SaV] using o
    simp [wp_X11_isAction, i4_1 q]
  by_cases e109 : k = 109
  · subst e109
    have q : inN a 8 := by simpa [SaV] using o
    simp [wp_X11_isAction, i8_1 q]
  by_cases e118 : k = 118
  · subst e118
    have q : inZ a 1 30 := by simpa [SaV] using o
    simp [wp_X11_isAction, in_1 q]
  by_cases e119 : k = 119
  · subst e119
    have q : inN a 10 := by simpa [SaV] using o
    simp [wp_X11_isAction, i10_1 q]
  · exact absurd o (by simp [SaV, e83, e107, e114, e115, e120, e70, e85, e99, e105, e109, e118, e119])
theorem ia_0 {k a : Int32} {h : Hp} {Q : Int32 → Prop} (o : ¬ SaV k a) : wp_X11_isAction k a h Q = Q 0 := by
  by_cases e83 : k = 83
  · subst e83; exact absurd (by simp [SaV]) o
  by_cases e107 : k = 107
  · subst e107; exact absurd (by simp [SaV]) o
  by_cases e114 : k = 114
  · subst e114; exact absurd (by simp [SaV]) o
  by_cases e115 : k = 115
  · subst e115; exact absurd (by simp [SaV]) o
  by_cases e120 : k = 120
  · subst e120; exact absurd (by simp [SaV]) o
  by_cases e70 : k = 70
  · subst e70
    have q : ¬ inN a 8 := by simpa [SaV] using o
    simp [wp_X11_isAction, i8_0 q]
  by_cases e85 : k = 85
  · subst e85
    have q : ¬ inN a 8 := by simpa [SaV] using o
    simp [wp_X11_isAction, i8_0 q]
  by_cases e99 : k = 99
  · subst e99
    have q : ¬ inN a 8 := by simpa [SaV] using o
    simp [wp_X11_isAction, i8_0 q]
  by_cases e105 : k = 105
  · subst e105
    have q : ¬ inN a 4 := by simpa [SaV] using o
    simp [wp_X11_isAction, i4_0 q]
  by_cases e109 : k = 109
  · subst e109
    have q : ¬ inN a 8 := by simpa [SaV] using o
    simp [wp_X11_isAction, i8_0 q]
  by_cases e118 : k = 118
  · subst e118
    have q : ¬ inZ a 1 30 := by simpa [SaV] using o
    simp [wp_X11_isAction, in_0 q]
  by_cases e119 : k = 119
  · subst e119
    have q : ¬ inN a 10 := by simpa [SaV] using o
    simp [wp_X11_isAction, i10_0 q]
  · simp [wp_X11_isAction, e83, e107, e114, e115, e120, e70, e85, e99, e105, e109, e118, e119]
