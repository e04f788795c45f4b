/-! THE LAW'S ARMS, on -/
section LAW
variable {G : ph_G} {B u : Nat × Nat} {d I f dr t n ev wi nx kp dy sa L lc pc : Nat} {l5 l6 : Option Value} {hi : Nat → Nat → Int32} {hl : Nat → Nat → Int64} {Q : Option Value → ph_H → Prop}
theorem lc_836 (hN : gN G ≤ 3072) (hI : I + 6 ≤ gN G) (h : JA hi hi f dr n ev wi nx kp dy sa L lc pc) (hu : u.1 ≤ B.1 ∧ u.2 ≤ B.2) (K : LK G B d I u Q) : wq G B (d + 41) 326 836 (lwL I l5 l6) [] u (HP hi hl f dr t) Q := by
  refine wq_aload_n q326_836 rfl ?_
  refine cL (As := []) q326_837 m_116 rfl rfl rfl ⟨by decide, rfl⟩ hu rfl (s_undo h _ (fun r hi1 hl1 f1 dr1 t1 ha => ?_))
  refine wq_aload_n q326_840 rfl ?_
  refine cL (As := []) q326_841 m_246 rfl rfl rfl ⟨by decide, rfl⟩ hu rfl (ha _ (fun hi2 hl2 t2 hJ => ?_))
  refine wq_icmp_eq q326_844 (fun _ => ?_) (fun c => absurd rfl c)
  exact K _ _ _ _ _ _ _ _ (Nat.le_succ _) (Nat.le_add_right _ _) hJ
theorem lc_849 (hN : gN G ≤ 3072) (hI : I + 6 ≤ gN G) (h : JA hi hi f dr n ev wi nx kp dy sa L lc pc) (hu : u.1 ≤ B.1 ∧ u.2 ≤ B.2) (K : LK G B d I u Q) : wq G B (d + 41) 326 849 (lwL I l5 l6) [] u (HP hi hl f dr t) Q := by
  refine wq_aload_n q326_849 rfl ?_
  refine wq_aload_n q326_850 rfl ?_
  refine wq_iload q326_851 rfl ?_
  refine wq_iconst q326_853 ?_
  refine wq_iadd q326_854 ?_
  refine wq_scr q326_855 (sc_in 1 rfl (by decide) hI hN) ?_
  refine wq_aload_n q326_856 rfl ?_
  refine wq_iload q326_857 rfl ?_
  refine wq_iconst q326_859 ?_
  refine wq_iadd q326_860 ?_
  refine wq_scr q326_861 (sc_in 2 rfl (by decide) hI hN) ?_
  refine cL (As := [_, _]) q326_862 m_100 rfl rfl rfl ⟨by decide, rfl⟩ hu rfl (s_log h _ (fun r hi1 hl1 f1 dr1 t1 ha => ?_))
  refine wq_aload_n q326_865 rfl ?_
  refine wq_aload_n q326_866 rfl ?_
  refine wq_iload q326_867 rfl ?_
  refine wq_iconst q326_869 ?_
  refine wq_iadd q326_870 ?_
  refine wq_scr q326_871 (sc_in 1 rfl (by decide) hI hN) ?_
  refine wq_aload_n q326_872 rfl ?_
  refine wq_iload q326_873 rfl ?_
  refine wq_iconst q326_875 ?_
  refine wq_iadd q326_876 ?_
  refine wq_scr q326_877 (sc_in 2 rfl (by decide) hI hN) ?_
  refine cL (As := [_, _]) q326_878 m_247 rfl rfl rfl ⟨by decide, rfl⟩ hu rfl (ha _ (fun hi2 hl2 t2 hJ => ?_))
  refine wq_icmp_eq q326_881 (fun _ => ?_) (fun c => absurd rfl c)
  exact K _ _ _ _ _ _ _ _ (Nat.le_succ _) (Nat.le_add_right _ _) hJ
theorem lc_886 (hN : gN G ≤ 3072) (hI : I + 6 ≤ gN G) (h : JA hi hi f dr n ev wi nx kp dy sa L lc pc) (hu : u.1 ≤ B.1 ∧ u.2 ≤ B.2) (K : LK G B d I u Q) : wq G B (d + 41) 326 886 (lwL I l5 l6) [] u (HP hi hl f dr t) Q := by
  refine wq_aload_n q326_886 rfl ?_
  refine wq_aload_n q326_887 rfl ?_
  refine wq_iload q326_888 rfl ?_
  refine wq_iconst q326_890 ?_
  refine wq_iadd q326_891 ?_
  refine wq_scr q326_892 (sc_in 1 rfl (by decide) hI hN) ?_
  refine wq_aload_n q326_893 rfl ?_
  refine wq_iload q326_894 rfl ?_
  refine wq_iconst q326_896 ?_
  refine wq_iadd q326_897 ?_
  refine wq_scr q326_898 (sc_in 2 rfl (by decide) hI hN) ?_
  refine wq_aload_n q326_899 rfl ?_
  refine wq_iload q326_900 rfl ?_
  refine wq_iconst q326_902 ?_
  refine wq_iadd q326_903 ?_
  refine wq_scr q326_904 (sc_in 3 rfl (by decide) hI hN) ?_
  refine cL (As := [_, _, _]) q326_905 m_126 rfl rfl rfl ⟨by decide, rfl⟩ hu rfl (s_step h _ (fun r hi1 hl1 f1 dr1 t1 ha => ?_))
  refine wq_aload_n q326_908 rfl ?_
  refine wq_aload_n q326_909 rfl ?_
  refine wq_iload q326_910 rfl ?_
  refine wq_iconst q326_912 ?_
  refine wq_iadd q326_913 ?_
  refine wq_scr q326_914 (sc_in 1 rfl (by decide) hI hN) ?_
  refine wq_aload_n q326_915 rfl ?_
  refine wq_iload q326_916 rfl ?_
  refine wq_iconst q326_918 ?_
  refine wq_iadd q326_919 ?_
  refine wq_scr q326_920 (sc_in 2 rfl (by decide) hI hN) ?_
  refine wq_aload_n q326_921 rfl ?_
  refine wq_iload q326_922 rfl ?_
  refine wq_iconst q326_924 ?_
  refine wq_iadd q326_925 ?_
  refine wq_scr q326_926 (sc_in 3 rfl (by decide) hI hN) ?_
  refine cL (As := [_, _, _]) q326_927 m_249 rfl rfl rfl ⟨by decide, rfl⟩ hu rfl (ha _ (fun hi2 hl2 t2 hJ => ?_))
  refine wq_icmp_eq q326_930 (fun _ => ?_) (fun c => absurd rfl c)
  exact K _ _ _ _ _ _ _ _ (Nat.le_succ _) (Nat.le_add_right _ _) hJ
theorem lc_935 (hN : gN G ≤ 3072) (hI : I + 6 ≤ gN G) (h : JA hi hi f dr n ev wi nx kp dy sa L lc pc) (hu : u.1 ≤ B.1 ∧ u.2 ≤ B.2) (K : LK G B d I u Q) : wq G B (d + 41) 326 935 (lwL I l5 l6) [] u (HP hi hl f dr t) Q := by
  refine wq_aload_n q326_935 rfl ?_
  refine wq_aload_n q326_936 rfl ?_
  refine wq_iload q326_937 rfl ?_
  refine wq_iconst q326_939 ?_
  refine wq_iadd q326_940 ?_
  refine wq_scr q326_941 (sc_in 1 rfl (by decide) hI hN) ?_
  refine wq_aload_n q326_942 rfl ?_
  refine wq_iload q326_943 rfl ?_
  refine wq_iconst q326_945 ?_
  refine wq_iadd q326_946 ?_
  refine wq_scr q326_947 (sc_in 2 rfl (by decide) hI hN) ?_
  refine cL (As := [_, _]) q326_948 m_127 rfl rfl rfl ⟨by decide, rfl⟩ hu rfl (s_run h _ (fun r hi1 hl1 f1 dr1 t1 ha => ?_))
  refine wq_aload_n q326_951 rfl ?_
  refine wq_aload_n q326_952 rfl ?_
  refine wq_iload q326_953 rfl ?_
  refine wq_iconst q326_955 ?_
  refine wq_iadd q326_956 ?_
  refine wq_scr q326_957 (sc_in 1 rfl (by decide) hI hN) ?_
  refine wq_aload_n q326_958 rfl ?_
  refine wq_iload q326_959 rfl ?_
  refine wq_iconst q326_961 ?_
  refine wq_iadd q326_962 ?_
  refine wq_scr q326_963 (sc_in 2 rfl (by decide) hI hN) ?_
  refine cL (As := [_, _]) q326_964 m_252 rfl rfl rfl ⟨by decide, rfl⟩ hu rfl (ha _ (fun hi2 hl2 t2 hJ => ?_))
  refine wq_icmp_eq q326_967 (fun _ => ?_) (fun c => absurd rfl c)
  exact K _ _ _ _ _ _ _ _ (Nat.le_succ _) (Nat.le_add_right _ _) hJ
theorem lc_972 (hN : gN G ≤ 3072) (hI : I + 6 ≤ gN G) (h : JA hi hi f dr n ev wi nx kp dy sa L lc pc) (hu : u.1 ≤ B.1 ∧ u.2 ≤ B.2) (K : LK G B d I u Q) : wq G B (d + 41) 326 972 (lwL I l5 l6) [] u (HP hi hl f dr t) Q := by
  refine wq_aload_n q326_972 rfl ?_
  refine wq_aload_n q326_973 rfl ?_
  refine wq_iload q326_974 rfl ?_
  refine wq_iconst q326_976 ?_
  refine wq_iadd q326_977 ?_
  refine wq_scr q326_978 (sc_in 1 rfl (by decide) hI hN) ?_
  refine cL (As := [_]) q326_979 m_128 rfl rfl rfl ⟨by decide, rfl⟩ hu rfl (s_perform h _ (fun r hi1 hl1 f1 dr1 t1 ha => ?_))
  refine wq_aload_n q326_982 rfl ?_
  refine wq_aload_n q326_983 rfl ?_
  refine wq_iload q326_984 rfl ?_
  refine wq_iconst q326_986 ?_
  refine wq_iadd q326_987 ?_
  refine wq_scr q326_988 (sc_in 1 rfl (by decide) hI hN) ?_
  refine cL (As := [_]) q326_989 m_253 rfl rfl rfl ⟨by decide, rfl⟩ hu rfl (ha _ (fun hi2 hl2 t2 hJ => ?_))
  refine wq_icmp_eq q326_992 (fun _ => ?_) (fun c => absurd rfl c)
  exact K _ _ _ _ _ _ _ _ (Nat.le_succ _) (Nat.le_add_right _ _) hJ
theorem lc_997 (hN : gN G ≤ 3072) (hI : I + 6 ≤ gN G) (h : JA hi hi f dr n ev wi nx kp dy sa L lc pc) (hu : u.1 ≤ B.1 ∧ u.2 ≤ B.2) (K : LK G B d I u Q) : wq G B (d + 41) 326 997 (lwL I l5 l6) [] u (HP hi hl f dr t) Q := by
  refine wq_aload_n q326_997 rfl ?_
  refine wq_aload_n q326_998 rfl ?_
  refine wq_iload q326_999 rfl ?_
  refine wq_iconst q326_1001 ?_
  refine wq_iadd q326_1002 ?_
  refine wq_scr q326_1003 (sc_in 1 rfl (by decide) hI hN) ?_
  refine wq_aload_n q326_1004 rfl ?_
  refine wq_iload q326_1005 rfl ?_
  refine wq_iconst q326_1007 ?_
  refine wq_iadd q326_1008 ?_
  refine wq_scr q326_1009 (sc_in 2 rfl (by decide) hI hN) ?_
  refine cL (As := [_, _]) q326_1010 m_131 rfl rfl rfl ⟨by decide, rfl⟩ hu rfl (s_far h _ (fun r hi1 hl1 f1 dr1 t1 ha => ?_))
  refine wq_aload_n q326_1013 rfl ?_
  refine wq_aload_n q326_1014 rfl ?_
  refine wq_iload q326_1015 rfl ?_
  refine wq_iconst q326_1017 ?_
  refine wq_iadd q326_1018 ?_
  refine wq_scr q326_1019 (sc_in 1 rfl (by decide) hI hN) ?_
  refine wq_aload_n q326_1020 rfl ?_
  refine wq_iload q326_1021 rfl ?_
  refine wq_iconst q326_1023 ?_
  refine wq_iadd q326_1024 ?_
  refine wq_scr q326_1025 (sc_in 2 rfl (by decide) hI hN) ?_
  refine cL (As := [_, _]) q326_1026 m_254 rfl rfl rfl ⟨by decide, rfl⟩ hu rfl (ha _ (fun hi2 hl2 t2 hJ => ?_))
  refine wq_icmp_eq q326_1029 (fun _ => ?_) (fun c => absurd rfl c)
  exact K _ _ _ _ _ _ _ _ (Nat.le_succ _) (Nat.le_add_right _ _) hJ
theorem lc_1034 (hN : gN G ≤ 3072) (hI : I + 6 ≤ gN G) (h : JA hi hi f dr n ev wi nx kp dy sa L lc pc) (hu : u.1 ≤ B.1 ∧ u.2 ≤ B.2) (K : LK G B d I u Q) : wq G B (d + 41) 326 1034 (lwL I l5 l6) [] u (HP hi hl f dr t) Q := by
  refine wq_aload_n q326_1034 rfl ?_
  refine wq_aload_n q326_1035 rfl ?_
  refine wq_iload q326_1036 rfl ?_
  refine wq_iconst q326_1038 ?_
  refine wq_iadd q326_1039 ?_
  refine wq_scr q326_1040 (sc_in 1 rfl (by decide) hI hN) ?_
  refine wq_aload_n q326_1041 rfl ?_
  refine wq_iload q326_1042 rfl ?_
  refine wq_iconst q326_1044 ?_
  refine wq_iadd q326_1045 ?_
  refine wq_scr q326_1046 (sc_in 2 rfl (by decide) hI hN) ?_
  refine cL (As := [_, _]) q326_1047 m_132 rfl rfl rfl ⟨by decide, rfl⟩ hu rfl (s_wall h _ (fun r hi1 hl1 f1 dr1 t1 ha => ?_))
  refine wq_aload_n q326_1050 rfl ?_
  refine wq_aload_n q326_1051 rfl ?_
  refine wq_iload q326_1052 rfl ?_
  refine wq_iconst q326_1054 ?_
  refine wq_iadd q326_1055 ?_
  refine wq_scr q326_1056 (sc_in 1 rfl (by decide) hI hN) ?_
  refine wq_aload_n q326_1057 rfl ?_
  refine wq_iload q326_1058 rfl ?_
  refine wq_iconst q326_1060 ?_
  refine wq_iadd q326_1061 ?_
  refine wq_scr q326_1062 (sc_in 2 rfl (by decide) hI hN) ?_
  refine cL (As := [_, _]) q326_1063 m_255 rfl rfl rfl ⟨by decide, rfl⟩ hu rfl (ha _ (fun hi2 hl2 t2 hJ => ?_))
  refine wq_icmp_eq q326_1066 (fun _ => ?_) (fun c => absurd rfl c)
  exact K _ _ _ _ _ _ _ _ (Nat.le_succ _) (Nat.le_add_right _ _) hJ
theorem lc_1071 (hN : gN G ≤ 3072) (hI : I + 6 ≤ gN G) (h : JA hi hi f dr n ev wi nx kp dy sa L lc pc) (hu : u.1 ≤ B.1 ∧ u.2 ≤ B.2) (K : LK G B d I u Q) : wq G B (d + 41) 326 1071 (lwL I l5 l6) [] u (HP hi hl f dr t) Q := by
  refine wq_aload_n q326_1071 rfl ?_
  refine wq_aload_n q326_1072 rfl ?_
  refine wq_iload q326_1073 rfl ?_
  refine wq_iconst q326_1075 ?_
  refine wq_iadd q326_1076 ?_
  refine wq_scr q326_1077 (sc_in 1 rfl (by decide) hI hN) ?_
  refine cL (As := [_]) q326_1078 m_138 rfl rfl rfl ⟨by decide, rfl⟩ hu rfl (s_seat h _ (fun r hi1 hl1 f1 dr1 t1 ha => ?_))
  refine wq_aload_n q326_1081 rfl ?_
  refine wq_aload_n q326_1082 rfl ?_
  refine wq_iload q326_1083 rfl ?_
  refine wq_iconst q326_1085 ?_
  refine wq_iadd q326_1086 ?_
  refine wq_scr q326_1087 (sc_in 1 rfl (by decide) hI hN) ?_
  refine cL (As := [_]) q326_1088 m_258 rfl rfl rfl ⟨by decide, rfl⟩ hu rfl (ha _ (fun hi2 hl2 t2 hJ => ?_))
  refine wq_icmp_eq q326_1091 (fun _ => ?_) (fun c => absurd rfl c)
  exact K _ _ _ _ _ _ _ _ (Nat.le_succ _) (Nat.le_add_right _ _) hJ
theorem lc_1096 (hN : gN G ≤ 3072) (hI : I + 6 ≤ gN G) (h : JA hi hi f dr n ev wi nx kp dy sa L lc pc) (hu : u.1 ≤ B.1 ∧ u.2 ≤ B.2) (K : LK G B d I u Q) : wq G B (d + 41) 326 1096 (lwL I l5 l6) [] u (HP hi hl f dr t) Q := by
  refine wq_aload_n q326_1096 rfl ?_
  refine cL (As := []) q326_1097 m_139 rfl rfl rfl ⟨by decide, rfl⟩ hu rfl (s_best h _ (fun r hi1 hl1 f1 dr1 t1 ha => ?_))
  refine wq_aload_n q326_1100 rfl ?_
  refine cL (As := []) q326_1101 m_259 rfl rfl rfl ⟨by decide, rfl⟩ hu rfl (ha _ (fun hi2 hl2 t2 hJ => ?_))
  refine wq_icmp_eq q326_1104 (fun _ => ?_) (fun c => absurd rfl c)
  exact K _ _ _ _ _ _ _ _ (Nat.le_succ _) (Nat.le_add_right _ _) hJ
theorem lc_1109 (hN : gN G ≤ 3072) (hI : I + 6 ≤ gN G) (h : JA hi hi f dr n ev wi nx kp dy sa L lc pc) (hu : u.1 ≤ B.1 ∧ u.2 ≤ B.2) (K : LK G B d I u Q) : wq G B (d + 41) 326 1109 (lwL I l5 l6) [] u (HP hi hl f dr t) Q := by
  refine wq_aload_n q326_1109 rfl ?_
  refine wq_aload_n q326_1110 rfl ?_
  refine wq_iload q326_1111 rfl ?_
  refine wq_iconst q326_1113 ?_
  refine wq_iadd q326_1114 ?_
  refine wq_scr q326_1115 (sc_in 1 rfl (by decide) hI hN) ?_
  refine cL (As := [_]) q326_1116 m_149 rfl rfl rfl ⟨by decide, rfl⟩ hu rfl (s_codes h _ (fun r hi1 hl1 f1 dr1 t1 ha => ?_))
  refine wq_aload_n q326_1119 rfl ?_
  refine wq_aload_n q326_1120 rfl ?_
  refine wq_iload q326_1121 rfl ?_
  refine wq_iconst q326_1123 ?_
  refine wq_iadd q326_1124 ?_
  refine wq_scr q326_1125 (sc_in 1 rfl (by decide) hI hN) ?_
  refine cL (As := [_]) q326_1126 m_261 rfl rfl rfl ⟨by decide, rfl⟩ hu rfl (ha _ (fun hi2 hl2 t2 hJ => ?_))
  refine wq_icmp_eq q326_1129 (fun _ => ?_) (fun c => absurd rfl c)
  exact K _ _ _ _ _ _ _ _ (Nat.le_succ _) (Nat.le_add_right _ _) hJ
theorem lc_1134 (hN : gN G ≤ 3072) (hI : I + 6 ≤ gN G) (h : JA hi hi f dr n ev wi nx kp dy sa L lc pc) (hu : u.1 ≤ B.1 ∧ u.2 ≤ B.2) (K : LK G B d I u Q) : wq G B (d + 41) 326 1134 (lwL I l5 l6) [] u (HP hi hl f dr t) Q := by
  refine wq_aload_n q326_1134 rfl ?_
  refine wq_aload_n q326_1135 rfl ?_
  refine wq_iload q326_1136 rfl ?_
  refine wq_iconst q326_1138 ?_
  refine wq_iadd q326_1139 ?_
  refine wq_scr q326_1140 (sc_in 1 rfl (by decide) hI hN) ?_
  refine wq_aload_n q326_1141 rfl ?_
  refine wq_iload q326_1142 rfl ?_
  refine wq_iconst q326_1144 ?_
  refine wq_iadd q326_1145 ?_
  refine wq_scr q326_1146 (sc_in 2 rfl (by decide) hI hN) ?_
  refine wq_aload_n q326_1147 rfl ?_
  refine wq_iload q326_1148 rfl ?_
  refine wq_iconst q326_1150 ?_
  refine wq_iadd q326_1151 ?_
  refine wq_scr q326_1152 (sc_in 3 rfl (by decide) hI hN) ?_
  refine wq_if_eq q326_1153 (fun c1 => ?_) (fun c1 => ?_)
  · refine wq_iconst q326_1160 ?_
    refine cL (As := [_, _, _]) q326_1161 m_154 rfl rfl rfl ⟨by decide, rfl⟩ hu rfl (s_said (Or.inl rfl) h _ (fun r hi1 hl1 f1 dr1 t1 ha => ?_))
    refine wq_aload_n q326_1164 rfl ?_
    refine wq_aload_n q326_1165 rfl ?_
    refine wq_iload q326_1166 rfl ?_
    refine wq_iconst q326_1168 ?_
    refine wq_iadd q326_1169 ?_
    refine wq_scr q326_1170 (sc_in 1 rfl (by decide) hI hN) ?_
    refine wq_aload_n q326_1171 rfl ?_
    refine wq_iload q326_1172 rfl ?_
    refine wq_iconst q326_1174 ?_
    refine wq_iadd q326_1175 ?_
    refine wq_scr q326_1176 (sc_in 2 rfl (by decide) hI hN) ?_
    refine wq_aload_n q326_1177 rfl ?_
    refine wq_iload q326_1178 rfl ?_
    refine wq_iconst q326_1180 ?_
    refine wq_iadd q326_1181 ?_
    refine wq_scr q326_1182 (sc_in 3 rfl (by decide) hI hN) ?_
    refine wq_if_eq q326_1183 (fun c2 => ?_) (fun c2 => ?_)
    · refine wq_iconst q326_1190 ?_
      refine cL (As := [_, _, _]) q326_1191 m_262 rfl rfl rfl ⟨by decide, rfl⟩ hu rfl (ha _ (fun hi2 hl2 t2 hJ => ?_))
      refine wq_icmp_eq q326_1194 (fun _ => ?_) (fun c => absurd rfl c)
      exact K _ _ _ _ _ _ _ _ (Nat.le_succ _) (Nat.le_add_right _ _) hJ
    · exact absurd c1 c2
  · refine wq_iconst q326_1156 ?_
    refine wq_goto q326_1157 ?_
    refine cL (As := [_, _, _]) q326_1161 m_154 rfl rfl rfl ⟨by decide, rfl⟩ hu rfl (s_said (Or.inr rfl) h _ (fun r hi1 hl1 f1 dr1 t1 ha => ?_))
    refine wq_aload_n q326_1164 rfl ?_
    refine wq_aload_n q326_1165 rfl ?_
    refine wq_iload q326_1166 rfl ?_
    refine wq_iconst q326_1168 ?_
    refine wq_iadd q326_1169 ?_
    refine wq_scr q326_1170 (sc_in 1 rfl (by decide) hI hN) ?_
    refine wq_aload_n q326_1171 rfl ?_
    refine wq_iload q326_1172 rfl ?_
    refine wq_iconst q326_1174 ?_
    refine wq_iadd q326_1175 ?_
    refine wq_scr q326_1176 (sc_in 2 rfl (by decide) hI hN) ?_
    refine wq_aload_n q326_1177 rfl ?_
    refine wq_iload q326_1178 rfl ?_
    refine wq_iconst q326_1180 ?_
    refine wq_iadd q326_1181 ?_
    refine wq_scr q326_1182 (sc_in 3 rfl (by decide) hI hN) ?_
    refine wq_if_eq q326_1183 (fun c2 => ?_) (fun c2 => ?_)
    · exact absurd c2 c1
    · refine wq_iconst q326_1186 ?_
      refine wq_goto q326_1187 ?_
      refine cL (As := [_, _, _]) q326_1191 m_262 rfl rfl rfl ⟨by decide, rfl⟩ hu rfl (ha _ (fun hi2 hl2 t2 hJ => ?_))
      refine wq_icmp_eq q326_1194 (fun _ => ?_) (fun c => absurd rfl c)
      exact K _ _ _ _ _ _ _ _ (Nat.le_succ _) (Nat.le_add_right _ _) hJ
theorem lc_1199 (hN : gN G ≤ 3072) (hI : I + 6 ≤ gN G) (h : JA hi hi f dr n ev wi nx kp dy sa L lc pc) (hu : u.1 ≤ B.1 ∧ u.2 ≤ B.2) (K : LK G B d I u Q) : wq G B (d + 41) 326 1199 (lwL I l5 l6) [] u (HP hi hl f dr t) Q := by
  refine wq_aload_n q326_1199 rfl ?_
  refine cL (As := []) q326_1200 m_155 rfl rfl rfl ⟨by decide, rfl⟩ hu rfl (s_least h _ (fun r hi1 hl1 f1 dr1 t1 ha => ?_))
  refine wq_aload_n q326_1203 rfl ?_
  refine cL (As := []) q326_1204 m_266 rfl rfl rfl ⟨by decide, rfl⟩ hu rfl (ha _ (fun hi2 hl2 t2 hJ => ?_))
  refine wq_icmp_eq q326_1207 (fun _ => ?_) (fun c => absurd rfl c)
  exact K _ _ _ _ _ _ _ _ (Nat.le_succ _) (Nat.le_add_right _ _) hJ
theorem lc_1212 (hN : gN G ≤ 3072) (hI : I + 6 ≤ gN G) (h : JA hi hi f dr n ev wi nx kp dy sa L lc pc) (hu : u.1 ≤ B.1 ∧ u.2 ≤ B.2) (K : LK G B d I u Q) : wq G B (d + 41) 326 1212 (lwL I l5 l6) [] u (HP hi hl f dr t) Q := by
  refine wq_aload_n q326_1212 rfl ?_
  refine wq_aload_n q326_1213 rfl ?_
  refine wq_iload q326_1214 rfl ?_
  refine wq_iconst q326_1216 ?_
  refine wq_iadd q326_1217 ?_
  refine wq_scr q326_1218 (sc_in 1 rfl (by decide) hI hN) ?_
  refine wq_aload_n q326_1219 rfl ?_
  refine wq_iload q326_1220 rfl ?_
  refine wq_iconst q326_1222 ?_
  refine wq_iadd q326_1223 ?_
  refine wq_scr q326_1224 (sc_in 2 rfl (by decide) hI hN) ?_
  refine cL (As := [_, _]) q326_1225 m_156 rfl rfl rfl ⟨by decide, rfl⟩ hu rfl (s_truths h _ (fun r hi1 hl1 f1 dr1 t1 ha => ?_))
  refine wq_aload_n q326_1228 rfl ?_
  refine wq_aload_n q326_1229 rfl ?_
  refine wq_iload q326_1230 rfl ?_
  refine wq_iconst q326_1232 ?_
  refine wq_iadd q326_1233 ?_
  refine wq_scr q326_1234 (sc_in 1 rfl (by decide) hI hN) ?_
  refine wq_aload_n q326_1235 rfl ?_
  refine wq_iload q326_1236 rfl ?_
  refine wq_iconst q326_1238 ?_
  refine wq_iadd q326_1239 ?_
  refine wq_scr q326_1240 (sc_in 2 rfl (by decide) hI hN) ?_
  refine cL (As := [_, _]) q326_1241 m_268 rfl rfl rfl ⟨by decide, rfl⟩ hu rfl (ha _ (fun hi2 hl2 t2 hJ => ?_))
  refine wq_icmp_eq q326_1244 (fun _ => ?_) (fun c => absurd rfl c)
  exact K _ _ _ _ _ _ _ _ (Nat.le_succ _) (Nat.le_add_right _ _) hJ
theorem lc_1249 (hN : gN G ≤ 3072) (hI : I + 6 ≤ gN G) (h : JA hi hi f dr n ev wi nx kp dy sa L lc pc) (hu : u.1 ≤ B.1 ∧ u.2 ≤ B.2) (K : LK G B d I u Q) : wq G B (d + 41) 326 1249 (lwL I l5 l6) [] u (HP hi hl f dr t) Q := by
  refine wq_aload_n q326_1249 rfl ?_
  refine wq_aload_n q326_1250 rfl ?_
  refine wq_iload q326_1251 rfl ?_
  refine wq_iconst q326_1253 ?_
  refine wq_iadd q326_1254 ?_
  refine wq_scr q326_1255 (sc_in 1 rfl (by decide) hI hN) ?_
  refine wq_aload_n q326_1256 rfl ?_
  refine wq_iload q326_1257 rfl ?_
  refine wq_iconst q326_1259 ?_
  refine wq_iadd q326_1260 ?_
  refine wq_scr q326_1261 (sc_in 2 rfl (by decide) hI hN) ?_
  refine cL (As := [_, _]) q326_1262 m_157 rfl rfl rfl ⟨by decide, rfl⟩ hu rfl (s_sure h _ (fun r hi1 hl1 f1 dr1 t1 ha => ?_))
  refine wq_aload_n q326_1265 rfl ?_
  refine wq_aload_n q326_1266 rfl ?_
  refine wq_iload q326_1267 rfl ?_
  refine wq_iconst q326_1269 ?_
  refine wq_iadd q326_1270 ?_
  refine wq_scr q326_1271 (sc_in 1 rfl (by decide) hI hN) ?_
  refine wq_aload_n q326_1272 rfl ?_
  refine wq_iload q326_1273 rfl ?_
  refine wq_iconst q326_1275 ?_
  refine wq_iadd q326_1276 ?_
  refine wq_scr q326_1277 (sc_in 2 rfl (by decide) hI hN) ?_
  refine cL (As := [_, _]) q326_1278 m_269 rfl rfl rfl ⟨by decide, rfl⟩ hu rfl (ha _ (fun hi2 hl2 t2 hJ => ?_))
  refine wq_icmp_eq q326_1281 (fun _ => ?_) (fun c => absurd rfl c)
  exact K _ _ _ _ _ _ _ _ (Nat.le_succ _) (Nat.le_add_right _ _) hJ
theorem lc_1286 (hN : gN G ≤ 3072) (hI : I + 6 ≤ gN G) (h : JA hi hi f dr n ev wi nx kp dy sa L lc pc) (hu : u.1 ≤ B.1 ∧ u.2 ≤ B.2) (K : LK G B d I u Q) : wq G B (d + 41) 326 1286 (lwL I l5 l6) [] u (HP hi hl f dr t) Q := by
  refine wq_aload_n q326_1286 rfl ?_
  refine wq_aload_n q326_1287 rfl ?_
  refine wq_iload q326_1288 rfl ?_
  refine wq_iconst q326_1290 ?_
  refine wq_iadd q326_1291 ?_
  refine wq_scr q326_1292 (sc_in 1 rfl (by decide) hI hN) ?_
  refine cL (As := [_]) q326_1293 m_158 rfl rfl rfl ⟨by decide, rfl⟩ hu rfl (s_ask h _ (fun r hi1 hl1 f1 dr1 t1 ha => ?_))
  refine wq_aload_n q326_1296 rfl ?_
  refine wq_aload_n q326_1297 rfl ?_
  refine wq_iload q326_1298 rfl ?_
  refine wq_iconst q326_1300 ?_
  refine wq_iadd q326_1301 ?_
  refine wq_scr q326_1302 (sc_in 1 rfl (by decide) hI hN) ?_
  refine cL (As := [_]) q326_1303 m_270 rfl rfl rfl ⟨by decide, rfl⟩ hu rfl (ha _ (fun hi2 hl2 t2 hJ => ?_))
  refine wq_icmp_eq q326_1306 (fun _ => ?_) (fun c => absurd rfl c)
  exact K _ _ _ _ _ _ _ _ (Nat.le_succ _) (Nat.le_add_right _ _) hJ
theorem lc_1311 (hN : gN G ≤ 3072) (hI : I + 6 ≤ gN G) (h : JA hi hi f dr n ev wi nx kp dy sa L lc pc) (hu : u.1 ≤ B.1 ∧ u.2 ≤ B.2) (K : LK G B d I u Q) : wq G B (d + 41) 326 1311 (lwL I l5 l6) [] u (HP hi hl f dr t) Q := by
  refine wq_aload_n q326_1311 rfl ?_
  refine cL (As := []) q326_1312 m_159 rfl rfl rfl ⟨by decide, rfl⟩ hu rfl (s_liars h _ (fun r hi1 hl1 f1 dr1 t1 ha => ?_))
  refine wq_aload_n q326_1315 rfl ?_
  refine cL (As := []) q326_1316 m_271 rfl rfl rfl ⟨by decide, rfl⟩ hu rfl (ha _ (fun hi2 hl2 t2 hJ => ?_))
  refine wq_icmp_eq q326_1319 (fun _ => ?_) (fun c => absurd rfl c)
  exact K _ _ _ _ _ _ _ _ (Nat.le_succ _) (Nat.le_add_right _ _) hJ
end LAW
