/-! ===== pure part: the last layout, loops, ranges ===== -/
theorem lb_tg_0_0 : fx_tg La_167 0 0 = 1 := by decide +kernel
theorem lb_tg_0_1 : fx_tg La_167 0 1 = 20 := by decide +kernel
theorem lb_tg_0_2 : fx_tg La_167 0 2 = 39 := by decide +kernel
theorem lb_tg_0_3 : fx_tg La_167 0 3 = 40 := by decide +kernel
theorem lb_tg_0_4 : fx_tg La_167 0 4 = 41 := by decide +kernel
theorem lb_tg_0_5 : fx_tg La_167 0 5 = 43 := by decide +kernel
theorem lb_tg_0_6 : fx_tg La_167 0 6 = 48 := by decide +kernel
theorem lb_tg_0_7 : fx_tg La_167 0 7 = 84 := by decide +kernel
theorem lb_ln_2 : fx_ln La_167 2 = 9 := by decide +kernel
theorem lb_ln_3 : fx_ln La_167 3 = 5 := by decide +kernel
theorem lb_ln_4 : fx_ln La_167 4 = 5 := by decide +kernel
theorem lb_ln_5 : fx_ln La_167 5 = 5 := by decide +kernel
theorem lb_ln_6 : fx_ln La_167 6 = 5 := by decide +kernel
theorem lb_ln_7 : fx_ln La_167 7 = 5 := by decide +kernel
theorem lb_ln_8 : fx_ln La_167 8 = 5 := by decide +kernel
theorem lb_ln_9 : fx_ln La_167 9 = 5 := by decide +kernel
theorem lb_ln_10 : fx_ln La_167 10 = 5 := by decide +kernel
theorem lb_ln_11 : fx_ln La_167 11 = 9 := by decide +kernel
theorem lb_ln_12 : fx_ln La_167 12 = 9 := by decide +kernel
theorem lb_ln_13 : fx_ln La_167 13 = 9 := by decide +kernel
theorem lb_ln_14 : fx_ln La_167 14 = 9 := by decide +kernel
theorem lb_ln_15 : fx_ln La_167 15 = 9 := by decide +kernel
theorem lb_ln_16 : fx_ln La_167 16 = 5 := by decide +kernel
theorem lb_ln_17 : fx_ln La_167 17 = 10 := by decide +kernel
theorem lb_ln_18 : fx_ln La_167 18 = 10 := by decide +kernel
theorem lb_ln_19 : fx_ln La_167 19 = 10 := by decide +kernel
theorem lb_ln_21 : fx_ln La_167 21 = 9 := by decide +kernel
theorem lb_ln_22 : fx_ln La_167 22 = 5 := by decide +kernel
theorem lb_ln_23 : fx_ln La_167 23 = 5 := by decide +kernel
theorem lb_ln_24 : fx_ln La_167 24 = 5 := by decide +kernel
theorem lb_ln_25 : fx_ln La_167 25 = 5 := by decide +kernel
theorem lb_ln_26 : fx_ln La_167 26 = 5 := by decide +kernel
theorem lb_ln_27 : fx_ln La_167 27 = 5 := by decide +kernel
theorem lb_ln_28 : fx_ln La_167 28 = 5 := by decide +kernel
theorem lb_ln_29 : fx_ln La_167 29 = 5 := by decide +kernel
theorem lb_ln_30 : fx_ln La_167 30 = 9 := by decide +kernel
theorem lb_ln_31 : fx_ln La_167 31 = 9 := by decide +kernel
theorem lb_ln_32 : fx_ln La_167 32 = 9 := by decide +kernel
theorem lb_ln_33 : fx_ln La_167 33 = 9 := by decide +kernel
theorem lb_ln_34 : fx_ln La_167 34 = 9 := by decide +kernel
theorem lb_ln_35 : fx_ln La_167 35 = 5 := by decide +kernel
theorem lb_ln_36 : fx_ln La_167 36 = 10 := by decide +kernel
theorem lb_ln_37 : fx_ln La_167 37 = 10 := by decide +kernel
theorem lb_ln_38 : fx_ln La_167 38 = 10 := by decide +kernel
theorem lb_ln_39 : fx_ln La_167 39 = 2 := by decide +kernel
theorem lb_ln_40 : fx_ln La_167 40 = 2 := by decide +kernel
theorem lb_tg_41_0 : fx_tg La_167 41 0 = 42 := by decide +kernel
theorem lb_ln_42 : fx_ln La_167 42 = 250 := by decide +kernel
theorem lb_tg_43_0 : fx_tg La_167 43 0 = 44 := by decide +kernel
theorem lb_tg_43_1 : fx_tg La_167 43 1 = 45 := by decide +kernel
theorem lb_tg_43_2 : fx_tg La_167 43 2 = 46 := by decide +kernel
theorem lb_tg_43_3 : fx_tg La_167 43 3 = 47 := by decide +kernel
theorem lb_ln_44 : fx_ln La_167 44 = 10 := by decide +kernel
theorem lb_ln_45 : fx_ln La_167 45 = 9 := by decide +kernel
theorem lb_ln_46 : fx_ln La_167 46 = 5 := by decide +kernel
theorem lb_ln_47 : fx_ln La_167 47 = 5 := by decide +kernel
theorem lb_tg_48_0 : fx_tg La_167 48 0 = 49 := by decide +kernel
theorem lb_tg_48_1 : fx_tg La_167 48 1 = 55 := by decide +kernel
theorem lb_tg_48_3 : fx_tg La_167 48 3 = 61 := by decide +kernel
theorem lb_tg_48_6 : fx_tg La_167 48 6 = 67 := by decide +kernel
theorem lb_tg_48_7 : fx_tg La_167 48 7 = 73 := by decide +kernel
theorem lb_tg_48_8 : fx_tg La_167 48 8 = 74 := by decide +kernel
theorem lb_tg_48_9 : fx_tg La_167 48 9 = 75 := by decide +kernel
theorem lb_tg_48_10 : fx_tg La_167 48 10 = 76 := by decide +kernel
theorem lb_tg_48_11 : fx_tg La_167 48 11 = 77 := by decide +kernel
theorem lb_tg_48_12 : fx_tg La_167 48 12 = 78 := by decide +kernel
theorem lb_ln_49 : fx_ln La_167 49 = 5 := by decide +kernel
theorem lb_ln_50 : fx_ln La_167 50 = 5 := by decide +kernel
theorem lb_ln_51 : fx_ln La_167 51 = 5 := by decide +kernel
theorem lb_ln_52 : fx_ln La_167 52 = 5 := by decide +kernel
theorem lb_ln_53 : fx_ln La_167 53 = 5 := by decide +kernel
theorem lb_ln_54 : fx_ln La_167 54 = 5 := by decide +kernel
theorem lb_ln_55 : fx_ln La_167 55 = 5 := by decide +kernel
theorem lb_ln_56 : fx_ln La_167 56 = 5 := by decide +kernel
theorem lb_ln_57 : fx_ln La_167 57 = 5 := by decide +kernel
theorem lb_ln_58 : fx_ln La_167 58 = 5 := by decide +kernel
theorem lb_ln_59 : fx_ln La_167 59 = 5 := by decide +kernel
theorem lb_ln_60 : fx_ln La_167 60 = 5 := by decide +kernel
theorem lb_ln_61 : fx_ln La_167 61 = 5 := by decide +kernel
theorem lb_ln_62 : fx_ln La_167 62 = 5 := by decide +kernel
theorem lb_ln_63 : fx_ln La_167 63 = 5 := by decide +kernel
theorem lb_ln_64 : fx_ln La_167 64 = 5 := by decide +kernel
theorem lb_ln_65 : fx_ln La_167 65 = 5 := by decide +kernel
theorem lb_ln_66 : fx_ln La_167 66 = 5 := by decide +kernel
theorem lb_ln_67 : fx_ln La_167 67 = 5 := by decide +kernel
theorem lb_ln_68 : fx_ln La_167 68 = 600 := by decide +kernel
theorem lb_ln_69 : fx_ln La_167 69 = 600 := by decide +kernel
theorem lb_ln_70 : fx_ln La_167 70 = 600 := by decide +kernel
theorem lb_ln_71 : fx_ln La_167 71 = 600 := by decide +kernel
theorem lb_ln_72 : fx_ln La_167 72 = 600 := by decide +kernel
theorem lb_ln_73 : fx_ln La_167 73 = 5 := by decide +kernel
theorem lb_ln_74 : fx_ln La_167 74 = 5 := by decide +kernel
theorem lb_ln_75 : fx_ln La_167 75 = 5 := by decide +kernel
theorem lb_ln_76 : fx_ln La_167 76 = 5 := by decide +kernel
theorem lb_ln_77 : fx_ln La_167 77 = 5 := by decide +kernel
theorem lb_ln_78 : fx_ln La_167 78 = 5 := by decide +kernel
theorem lb_ln_79 : fx_ln La_167 79 = 50 := by decide +kernel
theorem lb_ln_80 : fx_ln La_167 80 = 50 := by decide +kernel
theorem lb_ln_81 : fx_ln La_167 81 = 50 := by decide +kernel
theorem lb_ln_82 : fx_ln La_167 82 = 50 := by decide +kernel
theorem lb_ln_83 : fx_ln La_167 83 = 50 := by decide +kernel
theorem lb_tg_84_1 : fx_tg La_167 84 1 = 85 := by decide +kernel
theorem lb_tg_84_2 : fx_tg La_167 84 2 = 86 := by decide +kernel
theorem lb_tg_84_3 : fx_tg La_167 84 3 = 87 := by decide +kernel
theorem lb_ln_85 : fx_ln La_167 85 = 5 := by decide +kernel
theorem lb_ln_86 : fx_ln La_167 86 = 5 := by decide +kernel
theorem lb_ln_87 : fx_ln La_167 87 = 5 := by decide +kernel
theorem lb_ln_89 : fx_ln La_167 89 = 9 := by decide +kernel
theorem lb_ln_90 : fx_ln La_167 90 = 5 := by decide +kernel
theorem lb_ln_91 : fx_ln La_167 91 = 5 := by decide +kernel
theorem lb_ln_92 : fx_ln La_167 92 = 5 := by decide +kernel
theorem lb_ln_93 : fx_ln La_167 93 = 5 := by decide +kernel
theorem lb_ln_94 : fx_ln La_167 94 = 5 := by decide +kernel
theorem lb_ln_95 : fx_ln La_167 95 = 5 := by decide +kernel
theorem lb_ln_96 : fx_ln La_167 96 = 5 := by decide +kernel
theorem lb_ln_97 : fx_ln La_167 97 = 5 := by decide +kernel
theorem lb_ln_98 : fx_ln La_167 98 = 9 := by decide +kernel
theorem lb_ln_99 : fx_ln La_167 99 = 9 := by decide +kernel
theorem lb_ln_100 : fx_ln La_167 100 = 9 := by decide +kernel
theorem lb_ln_101 : fx_ln La_167 101 = 9 := by decide +kernel
theorem lb_ln_102 : fx_ln La_167 102 = 9 := by decide +kernel
theorem lb_ln_103 : fx_ln La_167 103 = 5 := by decide +kernel
theorem lb_ln_104 : fx_ln La_167 104 = 10 := by decide +kernel
theorem lb_ln_105 : fx_ln La_167 105 = 10 := by decide +kernel
theorem lb_ln_106 : fx_ln La_167 106 = 10 := by decide +kernel
theorem lb_ln_108 : fx_ln La_167 108 = 9 := by decide +kernel
theorem lb_ln_109 : fx_ln La_167 109 = 5 := by decide +kernel
theorem lb_ln_110 : fx_ln La_167 110 = 5 := by decide +kernel
theorem lb_ln_111 : fx_ln La_167 111 = 5 := by decide +kernel
theorem lb_ln_112 : fx_ln La_167 112 = 5 := by decide +kernel
theorem lb_ln_113 : fx_ln La_167 113 = 5 := by decide +kernel
theorem lb_ln_114 : fx_ln La_167 114 = 5 := by decide +kernel
theorem lb_ln_115 : fx_ln La_167 115 = 5 := by decide +kernel
theorem lb_ln_116 : fx_ln La_167 116 = 5 := by decide +kernel
theorem lb_ln_117 : fx_ln La_167 117 = 9 := by decide +kernel
theorem lb_ln_118 : fx_ln La_167 118 = 9 := by decide +kernel
theorem lb_ln_119 : fx_ln La_167 119 = 9 := by decide +kernel
theorem lb_ln_120 : fx_ln La_167 120 = 9 := by decide +kernel
theorem lb_ln_121 : fx_ln La_167 121 = 9 := by decide +kernel
theorem lb_ln_122 : fx_ln La_167 122 = 5 := by decide +kernel
theorem lb_ln_123 : fx_ln La_167 123 = 10 := by decide +kernel
theorem lb_ln_124 : fx_ln La_167 124 = 10 := by decide +kernel
theorem lb_ln_125 : fx_ln La_167 125 = 10 := by decide +kernel
theorem lb_tg_126_0 : fx_tg La_167 126 0 = 127 := by decide +kernel
theorem lb_tg_126_1 : fx_tg La_167 126 1 = 128 := by decide +kernel
theorem lb_tg_126_2 : fx_tg La_167 126 2 = 129 := by decide +kernel
theorem lb_tg_126_3 : fx_tg La_167 126 3 = 130 := by decide +kernel
theorem lb_tg_126_6 : fx_tg La_167 126 6 = 131 := by decide +kernel
theorem lb_tg_126_7 : fx_tg La_167 126 7 = 132 := by decide +kernel
theorem lb_tg_126_8 : fx_tg La_167 126 8 = 133 := by decide +kernel
theorem lb_tg_126_9 : fx_tg La_167 126 9 = 134 := by decide +kernel
theorem lb_tg_126_10 : fx_tg La_167 126 10 = 135 := by decide +kernel
theorem lb_tg_126_11 : fx_tg La_167 126 11 = 136 := by decide +kernel
theorem lb_tg_126_12 : fx_tg La_167 126 12 = 137 := by decide +kernel
theorem lb_tg_126_13 : fx_tg La_167 126 13 = 138 := by decide +kernel
theorem lb_tg_126_14 : fx_tg La_167 126 14 = 139 := by decide +kernel
theorem lb_tg_126_15 : fx_tg La_167 126 15 = 140 := by decide +kernel
theorem lb_tg_126_16 : fx_tg La_167 126 16 = 141 := by decide +kernel
theorem lb_tg_126_22 : fx_tg La_167 126 22 = 142 := by decide +kernel
theorem lb_tg_126_24 : fx_tg La_167 126 24 = 143 := by decide +kernel
theorem lb_ln_127 : fx_ln La_167 127 = 125 := by decide +kernel
theorem lb_ln_128 : fx_ln La_167 128 = 250 := by decide +kernel
theorem lb_ln_129 : fx_ln La_167 129 = 2 := by decide +kernel
theorem lb_ln_130 : fx_ln La_167 130 = 3 := by decide +kernel
theorem lb_ln_131 : fx_ln La_167 131 = 9 := by decide +kernel
theorem lb_ln_132 : fx_ln La_167 132 = 9 := by decide +kernel
theorem lb_ln_133 : fx_ln La_167 133 = 25 := by decide +kernel
theorem lb_ln_134 : fx_ln La_167 134 = 3000 := by decide +kernel
theorem lb_ln_135 : fx_ln La_167 135 = 5 := by decide +kernel
theorem lb_ln_136 : fx_ln La_167 136 = 10 := by decide +kernel
theorem lb_ln_137 : fx_ln La_167 137 = 5 := by decide +kernel
theorem lb_ln_138 : fx_ln La_167 138 = 25 := by decide +kernel
theorem lb_ln_139 : fx_ln La_167 139 = 5 := by decide +kernel
theorem lb_ln_140 : fx_ln La_167 140 = 5 := by decide +kernel
theorem lb_ln_141 : fx_ln La_167 141 = 250 := by decide +kernel
theorem lb_ln_142 : fx_ln La_167 142 = 95 := by decide +kernel
theorem lb_ln_143 : fx_ln La_167 143 = 3 := by decide +kernel
def TC (c : Int) : Prop := c = 1 ∨ c = 20 ∨ c = 88 ∨ c = 107
theorem TC_1 : TC 1 := Or.inl rfl
theorem TC_20 : TC 20 := Or.inr (Or.inl rfl)
theorem TC_88 : TC 88 := Or.inr (Or.inr (Or.inl rfl))
theorem TC_107 : TC 107 := Or.inr (Or.inr (Or.inr rfl))
theorem TC_cases {c : Int} (h : TC c) : c = 1 ∨ c = 20 ∨ c = 88 ∨ c = 107 := h
theorem int5 {i : Int} (h0 : 0 ≤ i) (h1 : i < 5) : i = 0 ∨ i = 1 ∨ i = 2 ∨ i = 3 ∨ i = 4 := by omega
theorem tc_tg_6 {c : Int} (h : TC c) : fx_tg La_167 c 6 = c + 1 := by rcases h with rfl | rfl | rfl | rfl <;> decide +kernel
theorem tc_tg_7 {c : Int} (h : TC c) : fx_tg La_167 c 7 = c + 2 := by rcases h with rfl | rfl | rfl | rfl <;> decide +kernel
theorem tc_tg_8 {c : Int} (h : TC c) : fx_tg La_167 c 8 = c + 3 := by rcases h with rfl | rfl | rfl | rfl <;> decide +kernel
theorem tc_tg_9 {c : Int} (h : TC c) : fx_tg La_167 c 9 = c + 9 := by rcases h with rfl | rfl | rfl | rfl <;> decide +kernel
theorem tc_tg_10 {c : Int} (h : TC c) : fx_tg La_167 c 10 = c + 15 := by rcases h with rfl | rfl | rfl | rfl <;> decide +kernel
theorem tc_tg_11 {c : Int} (h : TC c) : fx_tg La_167 c 11 = c + 16 := by rcases h with rfl | rfl | rfl | rfl <;> decide +kernel
theorem tc_tg_12 {c : Int} (h : TC c) : fx_tg La_167 c 12 = c + 17 := by rcases h with rfl | rfl | rfl | rfl <;> decide +kernel
theorem tc_tg_13 {c : Int} (h : TC c) : fx_tg La_167 c 13 = c + 18 := by rcases h with rfl | rfl | rfl | rfl <;> decide +kernel
theorem tc_ln_1 {c : Int} (h : TC c) : fx_ln La_167 (c + 1) = 9 := by rcases h with rfl | rfl | rfl | rfl <;> decide +kernel
theorem tc_ln_2 {c : Int} (h : TC c) : fx_ln La_167 (c + 2) = 5 := by rcases h with rfl | rfl | rfl | rfl <;> decide +kernel
theorem tc_ln_3 {c : Int} (h : TC c) : fx_ln La_167 (c + 3) = 5 := by rcases h with rfl | rfl | rfl | rfl <;> decide +kernel
theorem tc_ln_9 {c : Int} (h : TC c) : fx_ln La_167 (c + 9) = 5 := by rcases h with rfl | rfl | rfl | rfl <;> decide +kernel
theorem tc_ln_15 {c : Int} (h : TC c) : fx_ln La_167 (c + 15) = 5 := by rcases h with rfl | rfl | rfl | rfl <;> decide +kernel
theorem tc_ln_16 {c : Int} (h : TC c) : fx_ln La_167 (c + 16) = 10 := by rcases h with rfl | rfl | rfl | rfl <;> decide +kernel
theorem tc_ln_17 {c : Int} (h : TC c) : fx_ln La_167 (c + 17) = 10 := by rcases h with rfl | rfl | rfl | rfl <;> decide +kernel
theorem tc_ln_18 {c : Int} (h : TC c) : fx_ln La_167 (c + 18) = 10 := by rcases h with rfl | rfl | rfl | rfl <;> decide +kernel
theorem tc_doing {c i : Int} (h : TC c) (h0 : 0 ≤ i) (h1 : i < 5) : fx_tg La_167 (c + 3) i = c + 4 + i := by rcases h with rfl | rfl | rfl | rfl <;> rcases int5 h0 h1 with rfl | rfl | rfl | rfl | rfl <;> decide +kernel
theorem tc_needs {c i : Int} (h : TC c) (h0 : 0 ≤ i) (h1 : i < 5) : fx_tg La_167 (c + 9) i = c + 10 + i := by rcases h with rfl | rfl | rfl | rfl <;> rcases int5 h0 h1 with rfl | rfl | rfl | rfl | rfl <;> decide +kernel
theorem tc_lnD {c i : Int} (h : TC c) (h0 : 0 ≤ i) (h1 : i < 5) : fx_ln La_167 (c + 4 + i) = 5 := by rcases h with rfl | rfl | rfl | rfl <;> rcases int5 h0 h1 with rfl | rfl | rfl | rfl | rfl <;> decide +kernel
theorem tc_lnN {c i : Int} (h : TC c) (h0 : 0 ≤ i) (h1 : i < 5) : fx_ln La_167 (c + 10 + i) = 9 := by rcases h with rfl | rfl | rfl | rfl <;> rcases int5 h0 h1 with rfl | rfl | rfl | rfl | rfl <;> decide +kernel
theorem lb_im (i : Int) (h0 : 0 ≤ i) (h1 : i < 2) : fx_tg La_167 39 i = 88 + 19 * i := by
  rcases (show i = 0 ∨ i = 1 by omega) with rfl | rfl <;> decide +kernel
theorem lb_day {i : Int} (h0 : 0 ≤ i) (h1 : i < 5) : fx_tg La_167 49 i = 50 + i := by rcases int5 h0 h1 with rfl | rfl | rfl | rfl | rfl <;> decide +kernel
theorem lb_ln_day {i : Int} (h0 : 0 ≤ i) (h1 : i < 5) : fx_ln La_167 (50 + i) = 5 := by rcases int5 h0 h1 with rfl | rfl | rfl | rfl | rfl <;> decide +kernel
theorem lb_ld {i : Int} (h0 : 0 ≤ i) (h1 : i < 5) : fx_tg La_167 55 i = 56 + i := by rcases int5 h0 h1 with rfl | rfl | rfl | rfl | rfl <;> decide +kernel
theorem lb_ln_ld {i : Int} (h0 : 0 ≤ i) (h1 : i < 5) : fx_ln La_167 (56 + i) = 5 := by rcases int5 h0 h1 with rfl | rfl | rfl | rfl | rfl <;> decide +kernel
theorem lb_bd {i : Int} (h0 : 0 ≤ i) (h1 : i < 5) : fx_tg La_167 61 i = 62 + i := by rcases int5 h0 h1 with rfl | rfl | rfl | rfl | rfl <;> decide +kernel
theorem lb_ln_bd {i : Int} (h0 : 0 ≤ i) (h1 : i < 5) : fx_ln La_167 (62 + i) = 5 := by rcases int5 h0 h1 with rfl | rfl | rfl | rfl | rfl <;> decide +kernel
theorem lb_rw {i : Int} (h0 : 0 ≤ i) (h1 : i < 5) : fx_tg La_167 67 i = 68 + i := by rcases int5 h0 h1 with rfl | rfl | rfl | rfl | rfl <;> decide +kernel
theorem lb_ln_rw {i : Int} (h0 : 0 ≤ i) (h1 : i < 5) : fx_ln La_167 (68 + i) = 600 := by rcases int5 h0 h1 with rfl | rfl | rfl | rfl | rfl <;> decide +kernel
theorem lb_pr {i : Int} (h0 : 0 ≤ i) (h1 : i < 5) : fx_tg La_167 78 i = 79 + i := by rcases int5 h0 h1 with rfl | rfl | rfl | rfl | rfl <;> decide +kernel
theorem lb_ln_pr {i : Int} (h0 : 0 ≤ i) (h1 : i < 5) : fx_ln La_167 (79 + i) = 50 := by rcases int5 h0 h1 with rfl | rfl | rfl | rfl | rfl <;> decide +kernel
theorem wid {z : Int} (h0 : -2147483648 ≤ z) (h1 : z ≤ 2147483647) : fx_w z = z := fx_id ⟨h0, h1⟩
theorem widl {z : Int} (h0 : -9223372036854775808 ≤ z) (h1 : z ≤ 9223372036854775807) : fx_wl z = z := fx_idl ⟨h0, h1⟩
theorem up_eq {h : fx_H} {a i v a' i' : Int} (ha : a' = a) (hi : i' = i) : fx_up h a i v a' i' = v := by unfold fx_up; rw [if_pos ⟨ha, hi⟩]
theorem up_ne {h : fx_H} {a i v a' i' : Int} (hn : a' ≠ a ∨ i' ≠ i) : fx_up h a i v a' i' = h a' i' := by
  unfold fx_up
  rw [if_neg (fun q => by rcases hn with hn | hn; exact hn q.1; exact hn q.2)]
/-- x comes to something of which P holds -/
def Ret {α : Type} (x : Option α) (P : α → Prop) : Prop := ∃ a, x = some a ∧ P a
theorem Ret.ok {α : Type} {a : α} {P : α → Prop} (h : P a) : Ret (some a) P := ⟨a, rfl, h⟩
theorem Ret.bind {α β : Type} {x : Option α} {f : α → Option β} {P : β → Prop} (h : Ret x (fun a => Ret (f a) P)) : Ret (x.bind f) P := by
  obtain ⟨a, rfl, b, e, p⟩ := h
  exact ⟨b, e, p⟩
theorem Ret.mono {α : Type} {x : Option α} {P Q : α → Prop} (h : Ret x P) (g : ∀ a, P a → Q a) : Ret x Q := by
  obtain ⟨a, e, p⟩ := h
  exact ⟨a, e, g a p⟩
theorem Ret.ite {α : Type} {c : Prop} [Decidable c] {x y : Option α} {P : α → Prop} (h1 : c → Ret x P) (h2 : ¬ c → Ret y P) : Ret (if c then x else y) P := by
  by_cases hc : c
  · rw [if_pos hc]; exact h1 hc
  · rw [if_neg hc]; exact h2 hc
theorem Ret.eq {α : Type} {x : Option α} {a : α} {P : α → Prop} (e : x = some a) (h : P a) : Ret x P := ⟨a, e, h⟩
theorem rd_ok {Λ : fx_L} {h : fx_H} {a i : Int} (h0 : 0 ≤ i) (h1 : i < fx_ln Λ a) : fx_rd Λ h a i = some (h a i) := if_pos ⟨h0, h1⟩
theorem wr_ok {Λ : fx_L} {h : fx_H} {a i v : Int} (h0 : 0 ≤ i) (h1 : i < fx_ln Λ a) : fx_wr Λ h a i v = some (fx_up h a i v) := if_pos ⟨h0, h1⟩
theorem rr_ok {Λ : fx_L} {a i : Int} (h0 : 0 ≤ i) (h1 : i < fx_ln Λ a) : fx_rr Λ a i = some (fx_tg Λ a i) := if_pos ⟨h0, h1⟩
theorem cp_ok {Λ : fx_L} {h : fx_H} {a0 sp a dp n : Int} (h0 : 0 ≤ sp) (h1 : 0 ≤ dp) (h2 : 0 ≤ n) (h3 : sp + n ≤ fx_ln Λ a0) (h4 : dp + n ≤ fx_ln Λ a) : fx_cp Λ h a0 sp a dp n = some (fx_cpy h a0 sp a dp n) := if_pos ⟨h0, h1, h2, h3, h4⟩
theorem zb_ok {b : Int} (h : b = 0 ∨ b = 1) : fx_zb b = some b := if_pos h
theorem zb_0 : fx_zb 0 = some 0 := rfl
theorem zb_1 : fx_zb 1 = some 1 := rfl
theorem loop_ret {S E : Type} {step : S → Option (S ⊕ E)} (inv : S → Prop) (m : S → Nat) {Q : E → Prop} (hs : ∀ s, inv s → (∃ s', step s = some (.inl s') ∧ inv s' ∧ m s' < m s) ∨ (∃ e, step s = some (.inr e) ∧ Q e)) : ∀ (n : Nat) (s : S), inv s → m s < n → Ret (fx_loop step n s) Q := by
  intro n
  induction n with
  | zero => intro s _ h; omega
  | succ n ih =>
    intro s hi hm
    rcases hs s hi with ⟨s', e, hi', hm'⟩ | ⟨e', e, hq⟩
    · obtain ⟨r, er, hr⟩ := ih s' hi' (by omega)
      exact ⟨r, by simp only [fx_loop, e]; exact er, hr⟩
    · exact ⟨e', by simp only [fx_loop, e], hq⟩
/-- a loop that counts i up to n, state (i, s) -/
theorem loop_for {S : Type} {step : Int × S → Option ((Int × S) ⊕ (Int × S))} (inv : Int → S → Prop) (n : Int) {Fu : Nat} {i : Int} {s : S} (hF : (n - i).toNat < Fu) (hi : i ≤ n) (h0 : inv i s)
    (hb : ∀ (j : Int) (s : S), i ≤ j → j < n → inv j s → ∃ s', step (j, s) = some (.inl (j + 1, s')) ∧ inv (j + 1) s') (he : ∀ s : S, inv n s → step (n, s) = some (.inr (n, s))) : Ret (fx_loop step Fu (i, s)) (fun r => r.1 = n ∧ inv n r.2) := by
  refine loop_ret (fun q => i ≤ q.1 ∧ q.1 ≤ n ∧ inv q.1 q.2) (fun q => (n - q.1).toNat) (fun q hq => ?_) Fu (i, s) ⟨Int.le_refl i, hi, h0⟩ hF
  obtain ⟨j, t⟩ := q
  obtain ⟨h1, h2, h3⟩ := hq
  by_cases hj : j < n
  · obtain ⟨s', e, hs'⟩ := hb j t h1 hj h3
    refine Or.inl ⟨(j + 1, s'), e, ⟨?_, ?_, hs'⟩, ?_⟩
    · show i ≤ j + 1; omega
    · show j + 1 ≤ n; omega
    · show (n - (j + 1)).toNat < (n - j).toNat; omega
  · have : j = n := by have : j ≤ n := h2; omega
    subst this
    exact Or.inr ⟨(j, t), he t h3, rfl, h3⟩
theorem loop_mono {S E : Type} {step : S → Option (S ⊕ E)} : ∀ (n m : Nat) (s : S) (e : E), n ≤ m → fx_loop step n s = some e → fx_loop step m s = some e := by
  intro n
  induction n with
  | zero => intro m s e _ h; cases h
  | succ n ih =>
    intro m s e hm h
    obtain ⟨m, rfl⟩ : ∃ k, m = k + 1 := ⟨m - 1, by omega⟩
    unfold fx_loop at h ⊢
    split at h
    · cases h
    · exact ih m _ e (by omega) h
    · exact h
/-- the fuel -/
def FU : Nat := 1000000000000
theorem FU_big : 1000000000000 ≤ FU := Nat.le_refl _
