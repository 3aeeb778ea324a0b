def m_wl : List Int32 := [32, 103, 114, 111, 119, 32, 108, 111, 119, 101, 114, 32, 115, 101, 101, 100, 32, 119, 104, 101, 110, 32, 111, 114, 32, 97, 110, 100, 32, 110, 111, 116, 32, 104, 101, 105, 103, 104, 116, 32, 116, 101, 110, 100, 101, 114, 32, 119, 97, 116, 101, 114, 32, 100, 101, 103, 114, 101, 101, 32, 116, 104, 105, 110, 103, 32, 119, 101, 101, 107, 32, 115, 117, 114, 101, 115, 32, 108, 105, 110, 101, 115, 32, 102, 114, 111, 109, 32, 103, 105, 118, 101, 115, 32, 99, 108, 97, 115, 104, 101, 115, 32, 119, 111, 114, 107, 32, 115, 117, 114, 101, 32, 100, 111, 117, 98, 116, 115, 32, 111, 110, 32, 112, 111, 116, 32, 111, 102, 32, 98, 121, 32, 119, 101, 101, 100, 32, 116, 101, 108, 108, 32, 116, 111, 32]
def m_words (k : Nat) : Int32 := m_wl.getD k 0
theorem mw_0 : (32 : Int32) = m_words 0 := rfl
theorem mw_1 : (103 : Int32) = m_words 1 := rfl
theorem mw_2 : (114 : Int32) = m_words 2 := rfl
theorem mw_3 : (111 : Int32) = m_words 3 := rfl
theorem mw_4 : (119 : Int32) = m_words 4 := rfl
theorem mw_5 : (32 : Int32) = m_words 5 := rfl
theorem mw_6 : (108 : Int32) = m_words 6 := rfl
theorem mw_7 : (111 : Int32) = m_words 7 := rfl
theorem mw_8 : (119 : Int32) = m_words 8 := rfl
theorem mw_9 : (101 : Int32) = m_words 9 := rfl
theorem mw_10 : (114 : Int32) = m_words 10 := rfl
theorem mw_11 : (32 : Int32) = m_words 11 := rfl
theorem mw_12 : (115 : Int32) = m_words 12 := rfl
theorem mw_13 : (101 : Int32) = m_words 13 := rfl
theorem mw_14 : (101 : Int32) = m_words 14 := rfl
theorem mw_15 : (100 : Int32) = m_words 15 := rfl
theorem mw_16 : (32 : Int32) = m_words 16 := rfl
theorem mw_17 : (119 : Int32) = m_words 17 := rfl
theorem mw_18 : (104 : Int32) = m_words 18 := rfl
theorem mw_19 : (101 : Int32) = m_words 19 := rfl
theorem mw_20 : (110 : Int32) = m_words 20 := rfl
theorem mw_21 : (32 : Int32) = m_words 21 := rfl
theorem mw_22 : (111 : Int32) = m_words 22 := rfl
theorem mw_23 : (114 : Int32) = m_words 23 := rfl
theorem mw_24 : (32 : Int32) = m_words 24 := rfl
theorem mw_25 : (97 : Int32) = m_words 25 := rfl
theorem mw_26 : (110 : Int32) = m_words 26 := rfl
theorem mw_27 : (100 : Int32) = m_words 27 := rfl
theorem mw_28 : (32 : Int32) = m_words 28 := rfl
theorem mw_29 : (110 : Int32) = m_words 29 := rfl
theorem mw_30 : (111 : Int32) = m_words 30 := rfl
theorem mw_31 : (116 : Int32) = m_words 31 := rfl
theorem mw_32 : (32 : Int32) = m_words 32 := rfl
theorem mw_33 : (104 : Int32) = m_words 33 := rfl
theorem mw_34 : (101 : Int32) = m_words 34 := rfl
theorem mw_35 : (105 : Int32) = m_words 35 := rfl
theorem mw_36 : (103 : Int32) = m_words 36 := rfl
theorem mw_37 : (104 : Int32) = m_words 37 := rfl
theorem mw_38 : (116 : Int32) = m_words 38 := rfl
theorem mw_39 : (32 : Int32) = m_words 39 := rfl
theorem mw_40 : (116 : Int32) = m_words 40 := rfl
theorem mw_41 : (101 : Int32) = m_words 41 := rfl
theorem mw_42 : (110 : Int32) = m_words 42 := rfl
theorem mw_43 : (100 : Int32) = m_words 43 := rfl
theorem mw_44 : (101 : Int32) = m_words 44 := rfl
theorem mw_45 : (114 : Int32) = m_words 45 := rfl
theorem mw_46 : (32 : Int32) = m_words 46 := rfl
theorem mw_47 : (119 : Int32) = m_words 47 := rfl
theorem mw_48 : (97 : Int32) = m_words 48 := rfl
theorem mw_49 : (116 : Int32) = m_words 49 := rfl
theorem mw_50 : (101 : Int32) = m_words 50 := rfl
theorem mw_51 : (114 : Int32) = m_words 51 := rfl
theorem mw_52 : (32 : Int32) = m_words 52 := rfl
theorem mw_53 : (100 : Int32) = m_words 53 := rfl
theorem mw_54 : (101 : Int32) = m_words 54 := rfl
theorem mw_55 : (103 : Int32) = m_words 55 := rfl
theorem mw_56 : (114 : Int32) = m_words 56 := rfl
theorem mw_57 : (101 : Int32) = m_words 57 := rfl
theorem mw_58 : (101 : Int32) = m_words 58 := rfl
theorem mw_59 : (32 : Int32) = m_words 59 := rfl
theorem mw_60 : (116 : Int32) = m_words 60 := rfl
theorem mw_61 : (104 : Int32) = m_words 61 := rfl
theorem mw_62 : (105 : Int32) = m_words 62 := rfl
theorem mw_63 : (110 : Int32) = m_words 63 := rfl
theorem mw_64 : (103 : Int32) = m_words 64 := rfl
theorem mw_65 : (32 : Int32) = m_words 65 := rfl
theorem mw_66 : (119 : Int32) = m_words 66 := rfl
theorem mw_67 : (101 : Int32) = m_words 67 := rfl
theorem mw_68 : (101 : Int32) = m_words 68 := rfl
theorem mw_69 : (107 : Int32) = m_words 69 := rfl
theorem mw_70 : (32 : Int32) = m_words 70 := rfl
theorem mw_71 : (115 : Int32) = m_words 71 := rfl
theorem mw_72 : (117 : Int32) = m_words 72 := rfl
theorem mw_73 : (114 : Int32) = m_words 73 := rfl
theorem mw_74 : (101 : Int32) = m_words 74 := rfl
theorem mw_75 : (115 : Int32) = m_words 75 := rfl
theorem mw_76 : (32 : Int32) = m_words 76 := rfl
theorem mw_77 : (108 : Int32) = m_words 77 := rfl
theorem mw_78 : (105 : Int32) = m_words 78 := rfl
theorem mw_79 : (110 : Int32) = m_words 79 := rfl
theorem mw_80 : (101 : Int32) = m_words 80 := rfl
theorem mw_81 : (115 : Int32) = m_words 81 := rfl
theorem mw_82 : (32 : Int32) = m_words 82 := rfl
theorem mw_83 : (102 : Int32) = m_words 83 := rfl
theorem mw_84 : (114 : Int32) = m_words 84 := rfl
theorem mw_85 : (111 : Int32) = m_words 85 := rfl
theorem mw_86 : (109 : Int32) = m_words 86 := rfl
theorem mw_87 : (32 : Int32) = m_words 87 := rfl
theorem mw_88 : (103 : Int32) = m_words 88 := rfl
theorem mw_89 : (105 : Int32) = m_words 89 := rfl
theorem mw_90 : (118 : Int32) = m_words 90 := rfl
theorem mw_91 : (101 : Int32) = m_words 91 := rfl
theorem mw_92 : (115 : Int32) = m_words 92 := rfl
theorem mw_93 : (32 : Int32) = m_words 93 := rfl
theorem mw_94 : (99 : Int32) = m_words 94 := rfl
theorem mw_95 : (108 : Int32) = m_words 95 := rfl
theorem mw_96 : (97 : Int32) = m_words 96 := rfl
theorem mw_97 : (115 : Int32) = m_words 97 := rfl
theorem mw_98 : (104 : Int32) = m_words 98 := rfl
theorem mw_99 : (101 : Int32) = m_words 99 := rfl
theorem mw_100 : (115 : Int32) = m_words 100 := rfl
theorem mw_101 : (32 : Int32) = m_words 101 := rfl
theorem mw_102 : (119 : Int32) = m_words 102 := rfl
theorem mw_103 : (111 : Int32) = m_words 103 := rfl
theorem mw_104 : (114 : Int32) = m_words 104 := rfl
theorem mw_105 : (107 : Int32) = m_words 105 := rfl
theorem mw_106 : (32 : Int32) = m_words 106 := rfl
theorem mw_107 : (115 : Int32) = m_words 107 := rfl
theorem mw_108 : (117 : Int32) = m_words 108 := rfl
theorem mw_109 : (114 : Int32) = m_words 109 := rfl
theorem mw_110 : (101 : Int32) = m_words 110 := rfl
theorem mw_111 : (32 : Int32) = m_words 111 := rfl
theorem mw_112 : (100 : Int32) = m_words 112 := rfl
theorem mw_113 : (111 : Int32) = m_words 113 := rfl
theorem mw_114 : (117 : Int32) = m_words 114 := rfl
theorem mw_115 : (98 : Int32) = m_words 115 := rfl
theorem mw_116 : (116 : Int32) = m_words 116 := rfl
theorem mw_117 : (115 : Int32) = m_words 117 := rfl
theorem mw_118 : (32 : Int32) = m_words 118 := rfl
theorem mw_119 : (111 : Int32) = m_words 119 := rfl
theorem mw_120 : (110 : Int32) = m_words 120 := rfl
theorem mw_121 : (32 : Int32) = m_words 121 := rfl
theorem mw_122 : (112 : Int32) = m_words 122 := rfl
theorem mw_123 : (111 : Int32) = m_words 123 := rfl
theorem mw_124 : (116 : Int32) = m_words 124 := rfl
theorem mw_125 : (32 : Int32) = m_words 125 := rfl
theorem mw_126 : (111 : Int32) = m_words 126 := rfl
theorem mw_127 : (102 : Int32) = m_words 127 := rfl
theorem mw_128 : (32 : Int32) = m_words 128 := rfl
theorem mw_129 : (98 : Int32) = m_words 129 := rfl
theorem mw_130 : (121 : Int32) = m_words 130 := rfl
theorem mw_131 : (32 : Int32) = m_words 131 := rfl
theorem mw_132 : (119 : Int32) = m_words 132 := rfl
theorem mw_133 : (101 : Int32) = m_words 133 := rfl
theorem mw_134 : (101 : Int32) = m_words 134 := rfl
theorem mw_135 : (100 : Int32) = m_words 135 := rfl
theorem mw_136 : (32 : Int32) = m_words 136 := rfl
theorem mw_137 : (116 : Int32) = m_words 137 := rfl
theorem mw_138 : (101 : Int32) = m_words 138 := rfl
theorem mw_139 : (108 : Int32) = m_words 139 := rfl
theorem mw_140 : (108 : Int32) = m_words 140 := rfl
theorem mw_141 : (32 : Int32) = m_words 141 := rfl
theorem mw_142 : (116 : Int32) = m_words 142 := rfl
theorem mw_143 : (111 : Int32) = m_words 143 := rfl
theorem mw_144 : (32 : Int32) = m_words 144 := rfl
def w_Beds (Y : z_Y) (q : Nat → Nat) : va_W := [(q 0, .inr (0, [.ref (q 1), .ref (q 2), .ref (q 3), .ref (q 4), .ref (q 5), .int 0, .int 0, .int 0, .int 0])),
  (q 1, .inl (Y.1, 64, .inl (n_pre (fun _ => 50) 64))),
  (q 2, .inl (Y.1, 8, .inl (n_pre (fun _ => -1) 8))),
  (q 3, .inl (Y.1, 8, .inl (fun _ => 0))),
  (q 4, .inl (Y.1, 8, .inl (n_pre (fun _ => -1) 8))),
  (q 5, .inl (Y.1, 8, .inl (fun _ => 0)))]
def w_Text (n1 n2 : Nat) (Y : z_Y) (q : Nat → Nat) : va_W := [(q 0, .inr (9, [.ref (q 1), .ref (q 2), .int 0, .int 0])), (q 1, .inl (Y.1, n1, .inl (fun _ => 0))), (q 2, .inl (Y.1, n2, .inl (fun _ => 0)))]
def w_Garden (Y : z_Y) (q : Nat → Nat) : va_W := [(q 0, .inr (1, [.int 0, .int 3, .int 0, .int 0, .ref (q 1), .ref (q 2), .ref (q 3), .ref (q 6), .ref (q 9), .ref (q 12), .ref (q 15), .int 0, .ref (q 16), .ref (q 17)])),
  (q 1, .inl (Y.1, 8, .inl (fun _ => 0))),
  (q 2, .inl (Y.1, 8, .inl (fun _ => 0))),
  (q 3, .inr (9, [.ref (q 4), .ref (q 5), .int 0, .int 0])),
  (q 4, .inl (Y.1, 80, .inl (fun _ => 0))),
  (q 5, .inl (Y.1, 0, .inl (fun _ => 0))),
  (q 6, .inr (9, [.ref (q 7), .ref (q 8), .int 0, .int 0])),
  (q 7, .inl (Y.1, 80, .inl (fun _ => 0))),
  (q 8, .inl (Y.1, 400, .inl (fun _ => 0))),
  (q 9, .inr (9, [.ref (q 10), .ref (q 11), .int 0, .int 0])),
  (q 10, .inl (Y.1, 60, .inl (fun _ => 0))),
  (q 11, .inl (Y.1, 0, .inl (fun _ => 0))),
  (q 12, .inr (9, [.ref (q 13), .ref (q 14), .int 0, .int 0])),
  (q 13, .inl (Y.1, 80, .inl (fun _ => 0))),
  (q 14, .inl (Y.1, 0, .inl (fun _ => 0))),
  (q 15, .inl (Y.1, 36, .inl (fun _ => 0))),
  (q 16, .inl (Y.1, 600, .inl (fun _ => 0))),
  (q 17, .inr (0, [.ref (q 18), .ref (q 19), .ref (q 20), .ref (q 21), .ref (q 22), .int 0, .int 0, .int 0, .int 0])),
  (q 18, .inl (Y.1, 64, .inl (n_pre (fun _ => 50) 64))),
  (q 19, .inl (Y.1, 8, .inl (n_pre (fun _ => -1) 8))),
  (q 20, .inl (Y.1, 8, .inl (fun _ => 0))),
  (q 21, .inl (Y.1, 8, .inl (n_pre (fun _ => -1) 8))),
  (q 22, .inl (Y.1, 8, .inl (fun _ => 0)))]
def w_Law (Y : z_Y) (q : Nat → Nat) : va_W := [(q 0, .inr (5, [.ref (q 1), .ref (q 2)])),
  (q 1, .inl (Y.1, 8, .inl (fun _ => 0))),
  (q 2, .inl (Y.1, 32, .inl (fun _ => 0)))]
def w_Undos (Y : z_Y) (q : Nat → Nat) : va_W := [(q 0, .inr (10, [.ref (q 1), .int 0, .int 0])),
  (q 1, .inl (Y.2.2, 6, .inr (.inr (.inr (.inr (va_up (va_up (va_up (va_up (va_up (va_up (fun _ => none) 0 (some (q 2))) 1 (some (q 8))) 2 (some (q 14))) 3 (some (q 20))) 4 (some (q 26))) 5 (some (q 32)))))))),
  (q 2, .inr (0, [.ref (q 3), .ref (q 4), .ref (q 5), .ref (q 6), .ref (q 7), .int 0, .int 0, .int 0, .int 0])),
  (q 3, .inl (Y.1, 64, .inl (n_pre (fun _ => 50) 64))),
  (q 4, .inl (Y.1, 8, .inl (n_pre (fun _ => -1) 8))),
  (q 5, .inl (Y.1, 8, .inl (fun _ => 0))),
  (q 6, .inl (Y.1, 8, .inl (n_pre (fun _ => -1) 8))),
  (q 7, .inl (Y.1, 8, .inl (fun _ => 0))),
  (q 8, .inr (0, [.ref (q 9), .ref (q 10), .ref (q 11), .ref (q 12), .ref (q 13), .int 0, .int 0, .int 0, .int 0])),
  (q 9, .inl (Y.1, 64, .inl (n_pre (fun _ => 50) 64))),
  (q 10, .inl (Y.1, 8, .inl (n_pre (fun _ => -1) 8))),
  (q 11, .inl (Y.1, 8, .inl (fun _ => 0))),
  (q 12, .inl (Y.1, 8, .inl (n_pre (fun _ => -1) 8))),
  (q 13, .inl (Y.1, 8, .inl (fun _ => 0))),
  (q 14, .inr (0, [.ref (q 15), .ref (q 16), .ref (q 17), .ref (q 18), .ref (q 19), .int 0, .int 0, .int 0, .int 0])),
  (q 15, .inl (Y.1, 64, .inl (n_pre (fun _ => 50) 64))),
  (q 16, .inl (Y.1, 8, .inl (n_pre (fun _ => -1) 8))),
  (q 17, .inl (Y.1, 8, .inl (fun _ => 0))),
  (q 18, .inl (Y.1, 8, .inl (n_pre (fun _ => -1) 8))),
  (q 19, .inl (Y.1, 8, .inl (fun _ => 0))),
  (q 20, .inr (0, [.ref (q 21), .ref (q 22), .ref (q 23), .ref (q 24), .ref (q 25), .int 0, .int 0, .int 0, .int 0])),
  (q 21, .inl (Y.1, 64, .inl (n_pre (fun _ => 50) 64))),
  (q 22, .inl (Y.1, 8, .inl (n_pre (fun _ => -1) 8))),
  (q 23, .inl (Y.1, 8, .inl (fun _ => 0))),
  (q 24, .inl (Y.1, 8, .inl (n_pre (fun _ => -1) 8))),
  (q 25, .inl (Y.1, 8, .inl (fun _ => 0))),
  (q 26, .inr (0, [.ref (q 27), .ref (q 28), .ref (q 29), .ref (q 30), .ref (q 31), .int 0, .int 0, .int 0, .int 0])),
  (q 27, .inl (Y.1, 64, .inl (n_pre (fun _ => 50) 64))),
  (q 28, .inl (Y.1, 8, .inl (n_pre (fun _ => -1) 8))),
  (q 29, .inl (Y.1, 8, .inl (fun _ => 0))),
  (q 30, .inl (Y.1, 8, .inl (n_pre (fun _ => -1) 8))),
  (q 31, .inl (Y.1, 8, .inl (fun _ => 0))),
  (q 32, .inr (0, [.ref (q 33), .ref (q 34), .ref (q 35), .ref (q 36), .ref (q 37), .int 0, .int 0, .int 0, .int 0])),
  (q 33, .inl (Y.1, 64, .inl (n_pre (fun _ => 50) 64))),
  (q 34, .inl (Y.1, 8, .inl (n_pre (fun _ => -1) 8))),
  (q 35, .inl (Y.1, 8, .inl (fun _ => 0))),
  (q 36, .inl (Y.1, 8, .inl (n_pre (fun _ => -1) 8))),
  (q 37, .inl (Y.1, 8, .inl (fun _ => 0)))]
def w_Tape (Y : z_Y) (q : Nat → Nat) : va_W := [(q 0, .inr (8, [.ref (q 1), .int 0, .ref (q 2), .ref (q 3), .ref (q 4), .int 0])),
  (q 1, .inl (Y.2.1, 400, .inl (fun _ => 0))),
  (q 2, .inl (Y.1, 401, .inl (fun _ => 0))),
  (q 3, .inl (Y.1, 401, .inl (fun _ => 0))),
  (q 4, .inl (Y.1, 401, .inl (fun _ => 0)))]
def w_Grammar (tp : Nat) (Y : z_Y) (q : Nat → Nat) : va_W := [(q 0, .inr (3, [.ref tp, .ref (q 1), .int 0, .int (-1), .int 0, .int 0, .int 0, .ref (q 4), .int 0, .int 0])),
  (q 1, .inr (9, [.ref (q 2), .ref (q 3), .int 0, .int 0])),
  (q 2, .inl (Y.1, 80, .inl (fun _ => 0))),
  (q 3, .inl (Y.1, 400, .inl (fun _ => 0))),
  (q 4, .inl (Y.1, 32, .inl (fun _ => 0)))]
def w_Gifts (Y : z_Y) (q : Nat → Nat) : va_W := [(q 0, .inr (2, [.int 0, .ref (q 1), .ref (q 2), .ref (q 3), .int 0])),
  (q 1, .inl (Y.1, 8, .inl (fun _ => 0))),
  (q 2, .inl (Y.1, 8, .inl (fun _ => 0))),
  (q 3, .inl (Y.1, 8, .inl (fun _ => 0)))]
def w_Mind (Y : z_Y) (q : Nat → Nat) : va_W := [(q 0, .inr (6, [.ref (q 1), .ref (q 2)])),
  (q 1, .inl (Y.1, 8, .inl (fun _ => 0))),
  (q 2, .inl (Y.1, 8, .inl (fun _ => 0)))]
def w_Grounds (Y : z_Y) (q : Nat → Nat) : va_W := [(q 0, .inr (4, [.ref (q 1)])),
  (q 1, .inl (Y.1, 256, .inl (fun _ => 0)))]
def w_Season (g b l : Nat) (w : Int32) (Y : z_Y) (q : Nat → Nat) : va_W := [(q 0, .inr (7, [.ref g, .ref b, .ref l, .int w]))]
def w_PD (Y : z_Y) (q : Nat → Nat) : va_W := [(q 0, .inr (11, [.ref (q 1), .ref (q 24), .int 0, .ref (q 50), .ref (q 51), .ref (q 58), .ref (q 96), .ref (q 101), .ref (q 47), .ref (q 106), .ref (q 110), .ref (q 113)])),
  (q 1, .inr (1, [.int 0, .int 3, .int 0, .int 0, .ref (q 2), .ref (q 3), .ref (q 4), .ref (q 7), .ref (q 10), .ref (q 13), .ref (q 16), .int 0, .ref (q 17), .ref (q 18)])),
  (q 2, .inl (Y.1, 8, .inl (fun _ => 0))),
  (q 3, .inl (Y.1, 8, .inl (fun _ => 0))),
  (q 4, .inr (9, [.ref (q 5), .ref (q 6), .int 0, .int 0])),
  (q 5, .inl (Y.1, 80, .inl (fun _ => 0))),
  (q 6, .inl (Y.1, 0, .inl (fun _ => 0))),
  (q 7, .inr (9, [.ref (q 8), .ref (q 9), .int 0, .int 0])),
  (q 8, .inl (Y.1, 80, .inl (fun _ => 0))),
  (q 9, .inl (Y.1, 400, .inl (fun _ => 0))),
  (q 10, .inr (9, [.ref (q 11), .ref (q 12), .int 0, .int 0])),
  (q 11, .inl (Y.1, 60, .inl (fun _ => 0))),
  (q 12, .inl (Y.1, 0, .inl (fun _ => 0))),
  (q 13, .inr (9, [.ref (q 14), .ref (q 15), .int 0, .int 0])),
  (q 14, .inl (Y.1, 80, .inl (fun _ => 0))),
  (q 15, .inl (Y.1, 0, .inl (fun _ => 0))),
  (q 16, .inl (Y.1, 36, .inl (fun _ => 0))),
  (q 17, .inl (Y.1, 600, .inl (fun _ => 0))),
  (q 18, .inr (0, [.ref (q 19), .ref (q 20), .ref (q 21), .ref (q 22), .ref (q 23), .int 0, .int 0, .int 0, .int 0])),
  (q 19, .inl (Y.1, 64, .inl (n_pre (fun _ => 50) 64))),
  (q 20, .inl (Y.1, 8, .inl (n_pre (fun _ => -1) 8))),
  (q 21, .inl (Y.1, 8, .inl (fun _ => 0))),
  (q 22, .inl (Y.1, 8, .inl (n_pre (fun _ => -1) 8))),
  (q 23, .inl (Y.1, 8, .inl (fun _ => 0))),
  (q 24, .inr (1, [.int 0, .int 3, .int 0, .int 0, .ref (q 25), .ref (q 26), .ref (q 27), .ref (q 30), .ref (q 33), .ref (q 36), .ref (q 39), .int 0, .ref (q 40), .ref (q 41)])),
  (q 25, .inl (Y.1, 8, .inl (fun _ => 0))),
  (q 26, .inl (Y.1, 8, .inl (fun _ => 0))),
  (q 27, .inr (9, [.ref (q 28), .ref (q 29), .int 0, .int 0])),
  (q 28, .inl (Y.1, 80, .inl (fun _ => 0))),
  (q 29, .inl (Y.1, 0, .inl (fun _ => 0))),
  (q 30, .inr (9, [.ref (q 31), .ref (q 32), .int 0, .int 0])),
  (q 31, .inl (Y.1, 80, .inl (fun _ => 0))),
  (q 32, .inl (Y.1, 400, .inl (fun _ => 0))),
  (q 33, .inr (9, [.ref (q 34), .ref (q 35), .int 0, .int 0])),
  (q 34, .inl (Y.1, 60, .inl (fun _ => 0))),
  (q 35, .inl (Y.1, 0, .inl (fun _ => 0))),
  (q 36, .inr (9, [.ref (q 37), .ref (q 38), .int 0, .int 0])),
  (q 37, .inl (Y.1, 80, .inl (fun _ => 0))),
  (q 38, .inl (Y.1, 0, .inl (fun _ => 0))),
  (q 39, .inl (Y.1, 36, .inl (fun _ => 0))),
  (q 40, .inl (Y.1, 600, .inl (fun _ => 0))),
  (q 41, .inr (0, [.ref (q 42), .ref (q 43), .ref (q 44), .ref (q 45), .ref (q 46), .int 0, .int 0, .int 0, .int 0])),
  (q 42, .inl (Y.1, 64, .inl (n_pre (fun _ => 50) 64))),
  (q 43, .inl (Y.1, 8, .inl (n_pre (fun _ => -1) 8))),
  (q 44, .inl (Y.1, 8, .inl (fun _ => 0))),
  (q 45, .inl (Y.1, 8, .inl (n_pre (fun _ => -1) 8))),
  (q 46, .inl (Y.1, 8, .inl (fun _ => 0))),
  (q 47, .inr (5, [.ref (q 48), .ref (q 49)])),
  (q 48, .inl (Y.1, 8, .inl (fun _ => 0))),
  (q 49, .inl (Y.1, 32, .inl (fun _ => 0))),
  (q 50, .inr (7, [.ref (q 1), .ref (q 18), .ref (q 47), .int 1])),
  (q 51, .inr (7, [.ref (q 1), .ref (q 52), .ref (q 47), .int 0])),
  (q 52, .inr (0, [.ref (q 53), .ref (q 54), .ref (q 55), .ref (q 56), .ref (q 57), .int 0, .int 0, .int 0, .int 0])),
  (q 53, .inl (Y.1, 64, .inl (n_pre (fun _ => 50) 64))),
  (q 54, .inl (Y.1, 8, .inl (n_pre (fun _ => -1) 8))),
  (q 55, .inl (Y.1, 8, .inl (fun _ => 0))),
  (q 56, .inl (Y.1, 8, .inl (n_pre (fun _ => -1) 8))),
  (q 57, .inl (Y.1, 8, .inl (fun _ => 0))),
  (q 58, .inr (10, [.ref (q 59), .int 0, .int 0])),
  (q 59, .inl (Y.2.2, 6, .inr (.inr (.inr (.inr (va_up (va_up (va_up (va_up (va_up (va_up (fun _ => none) 0 (some (q 60))) 1 (some (q 66))) 2 (some (q 72))) 3 (some (q 78))) 4 (some (q 84))) 5 (some (q 90)))))))),
  (q 60, .inr (0, [.ref (q 61), .ref (q 62), .ref (q 63), .ref (q 64), .ref (q 65), .int 0, .int 0, .int 0, .int 0])),
  (q 61, .inl (Y.1, 64, .inl (n_pre (fun _ => 50) 64))),
  (q 62, .inl (Y.1, 8, .inl (n_pre (fun _ => -1) 8))),
  (q 63, .inl (Y.1, 8, .inl (fun _ => 0))),
  (q 64, .inl (Y.1, 8, .inl (n_pre (fun _ => -1) 8))),
  (q 65, .inl (Y.1, 8, .inl (fun _ => 0))),
  (q 66, .inr (0, [.ref (q 67), .ref (q 68), .ref (q 69), .ref (q 70), .ref (q 71), .int 0, .int 0, .int 0, .int 0])),
  (q 67, .inl (Y.1, 64, .inl (n_pre (fun _ => 50) 64))),
  (q 68, .inl (Y.1, 8, .inl (n_pre (fun _ => -1) 8))),
  (q 69, .inl (Y.1, 8, .inl (fun _ => 0))),
  (q 70, .inl (Y.1, 8, .inl (n_pre (fun _ => -1) 8))),
  (q 71, .inl (Y.1, 8, .inl (fun _ => 0))),
  (q 72, .inr (0, [.ref (q 73), .ref (q 74), .ref (q 75), .ref (q 76), .ref (q 77), .int 0, .int 0, .int 0, .int 0])),
  (q 73, .inl (Y.1, 64, .inl (n_pre (fun _ => 50) 64))),
  (q 74, .inl (Y.1, 8, .inl (n_pre (fun _ => -1) 8))),
  (q 75, .inl (Y.1, 8, .inl (fun _ => 0))),
  (q 76, .inl (Y.1, 8, .inl (n_pre (fun _ => -1) 8))),
  (q 77, .inl (Y.1, 8, .inl (fun _ => 0))),
  (q 78, .inr (0, [.ref (q 79), .ref (q 80), .ref (q 81), .ref (q 82), .ref (q 83), .int 0, .int 0, .int 0, .int 0])),
  (q 79, .inl (Y.1, 64, .inl (n_pre (fun _ => 50) 64))),
  (q 80, .inl (Y.1, 8, .inl (n_pre (fun _ => -1) 8))),
  (q 81, .inl (Y.1, 8, .inl (fun _ => 0))),
  (q 82, .inl (Y.1, 8, .inl (n_pre (fun _ => -1) 8))),
  (q 83, .inl (Y.1, 8, .inl (fun _ => 0))),
  (q 84, .inr (0, [.ref (q 85), .ref (q 86), .ref (q 87), .ref (q 88), .ref (q 89), .int 0, .int 0, .int 0, .int 0])),
  (q 85, .inl (Y.1, 64, .inl (n_pre (fun _ => 50) 64))),
  (q 86, .inl (Y.1, 8, .inl (n_pre (fun _ => -1) 8))),
  (q 87, .inl (Y.1, 8, .inl (fun _ => 0))),
  (q 88, .inl (Y.1, 8, .inl (n_pre (fun _ => -1) 8))),
  (q 89, .inl (Y.1, 8, .inl (fun _ => 0))),
  (q 90, .inr (0, [.ref (q 91), .ref (q 92), .ref (q 93), .ref (q 94), .ref (q 95), .int 0, .int 0, .int 0, .int 0])),
  (q 91, .inl (Y.1, 64, .inl (n_pre (fun _ => 50) 64))),
  (q 92, .inl (Y.1, 8, .inl (n_pre (fun _ => -1) 8))),
  (q 93, .inl (Y.1, 8, .inl (fun _ => 0))),
  (q 94, .inl (Y.1, 8, .inl (n_pre (fun _ => -1) 8))),
  (q 95, .inl (Y.1, 8, .inl (fun _ => 0))),
  (q 96, .inr (8, [.ref (q 97), .int 0, .ref (q 98), .ref (q 99), .ref (q 100), .int 0])),
  (q 97, .inl (Y.2.1, 400, .inl (fun _ => 0))),
  (q 98, .inl (Y.1, 401, .inl (fun _ => 0))),
  (q 99, .inl (Y.1, 401, .inl (fun _ => 0))),
  (q 100, .inl (Y.1, 401, .inl (fun _ => 0))),
  (q 101, .inr (3, [.ref (q 96), .ref (q 102), .int 0, .int (-1), .int 0, .int 0, .int 0, .ref (q 105), .int 0, .int 0])),
  (q 102, .inr (9, [.ref (q 103), .ref (q 104), .int 0, .int 0])),
  (q 103, .inl (Y.1, 80, .inl (fun _ => 0))),
  (q 104, .inl (Y.1, 400, .inl (fun _ => 0))),
  (q 105, .inl (Y.1, 32, .inl (fun _ => 0))),
  (q 106, .inr (2, [.int 0, .ref (q 107), .ref (q 108), .ref (q 109), .int 0])),
  (q 107, .inl (Y.1, 8, .inl (fun _ => 0))),
  (q 108, .inl (Y.1, 8, .inl (fun _ => 0))),
  (q 109, .inl (Y.1, 8, .inl (fun _ => 0))),
  (q 110, .inr (6, [.ref (q 111), .ref (q 112)])),
  (q 111, .inl (Y.1, 8, .inl (fun _ => 0))),
  (q 112, .inl (Y.1, 8, .inl (fun _ => 0))),
  (q 113, .inr (4, [.ref (q 114)])),
  (q 114, .inl (Y.1, 256, .inl (fun _ => 0)))]
def w_Model (Y : z_Y) (q : Nat → Nat) : va_W := [(q 0, .inr (12, [.int 0, .ref (q 1), .ref (q 2), .int 0, .ref (q 3), .int 0, .int 0, .int 0, .int 0, .int 0, .ref (q 4), .ref (q 5), .ref (q 6), .ref (q 7), .int 0, .int 0, .int 0, .int 0, .int 0, .ref (q 8), .ref (q 9), .ref (q 10), .ref (q 11), .ref (q 12), .ref (q 13), .ref (q 14), .ref (q 15), .int 0, .int 0, .int 0, .ref (q 16), .int 0, .int 0, .int 0, .int 0, .int (-1), .int 0, .ref (q 17), .int 0, .ref (q 18), .int 0, .ref (q 19), .ref (q 20), .ref (q 21), .int 0, .ref (q 22), .ref (q 23), .ref (q 24), .ref (q 25), .ref (q 26), .ref (q 27), .ref (q 28), .int 0, .ref (q 29), .ref (q 30), .ref (q 31), .ref (q 32), .int 0, .int 0, .int 0, .ref (q 33)])),
  (q 1, .inl (Y.1, 100, .inl (fun _ => 0))),
  (q 2, .inl (Y.1, 600, .inl (fun _ => 0))),
  (q 3, .inl (Y.1, 100, .inl (fun _ => 0))),
  (q 4, .inl (Y.1, 8, .inl (fun _ => 0))),
  (q 5, .inl (Y.1, 8, .inl (fun _ => 0))),
  (q 6, .inl (Y.1, 600, .inl (fun _ => 0))),
  (q 7, .inl (Y.1, 400, .inl (fun _ => 0))),
  (q 8, .inl (Y.1, 145, .inl (n_pre m_words 145))),
  (q 9, .inl (Y.1, 2, .inl (fun _ => 0))),
  (q 10, .inl (Y.1, 48, .inl (fun _ => 0))),
  (q 11, .inl (Y.1, 48, .inl (fun _ => 0))),
  (q 12, .inl (Y.1, 48, .inl (fun _ => 0))),
  (q 13, .inl (Y.1, 48, .inl (fun _ => 0))),
  (q 14, .inl (Y.1, 1200, .inl (fun _ => 0))),
  (q 15, .inl (Y.1, 1200, .inl (fun _ => 0))),
  (q 16, .inl (Y.1, 40, .inl (fun _ => 0))),
  (q 17, .inl (Y.1, 96, .inl (fun _ => 0))),
  (q 18, .inl (Y.1, 72, .inl (fun _ => 0))),
  (q 19, .inl (Y.1, 160, .inl (fun _ => 0))),
  (q 20, .inl (Y.1, 8, .inl (fun _ => 0))),
  (q 21, .inl (Y.1, 420, .inl (fun _ => 0))),
  (q 22, .inl (Y.1, 8, .inl (fun _ => 0))),
  (q 23, .inl (Y.1, 8, .inl (fun _ => 0))),
  (q 24, .inl (Y.1, 8, .inl (fun _ => 0))),
  (q 25, .inl (Y.1, 8, .inl (fun _ => 0))),
  (q 26, .inl (Y.1, 8, .inl (fun _ => 0))),
  (q 27, .inl (Y.1, 8, .inl (fun _ => 0))),
  (q 28, .inl (Y.1, 8, .inl (fun _ => 0))),
  (q 29, .inl (Y.1, 12, .inl (fun _ => 0))),
  (q 30, .inl (Y.1, 12, .inl (fun _ => 0))),
  (q 31, .inl (Y.1, 12, .inl (fun _ => 0))),
  (q 32, .inl (Y.1, 256, .inl (fun _ => 0))),
  (q 33, .inl (Y.1, 2000, .inl (fun _ => 0)))]
theorem moX0_3 : Cond.methodLink RX0 3 Lib.objectInit ∈ z_T := z_t1 70 rfl rfl
theorem moX9_1 : Cond.methodLink RX9 1 Lib.objectInit ∈ z_T := z_t1 41 rfl rfl
theorem moX2_3 : Cond.methodLink RX2 3 Lib.objectInit ∈ z_T := z_t2 92 rfl rfl
theorem moX4_3 : Cond.methodLink RX4 3 Lib.objectInit ∈ z_T := z_t2 129 rfl rfl
theorem moX5_3 : Cond.methodLink RX5 3 Lib.objectInit ∈ z_T := z_t1 206 rfl rfl
theorem moX6_3 : Cond.methodLink RX6 3 Lib.objectInit ∈ z_T := z_t2 116 rfl rfl
theorem moX8_3 : Cond.methodLink RX8 3 Lib.objectInit ∈ z_T := z_t2 20 rfl rfl
theorem moX1_3 : Cond.methodLink RX1 3 Lib.objectInit ∈ z_T := z_t1 35 rfl rfl
theorem clX1_22 : Cond.classLink RX1 22 RX9 ∈ z_T := z_t1 36 rfl rfl
theorem inX9 : Cond.instantiable RX9 4 ∈ z_T := z_t1 37 rfl rfl
theorem itX9 : Cond.initialized RX9 ∈ z_T := z_t1 3 rfl rfl
theorem mlX1_24 : Cond.methodLink RX1 24 yX9_init ∈ z_T := z_t1 38 rfl rfl
theorem clX1_46 : Cond.classLink RX1 46 RX0 ∈ z_T := z_t1 65 rfl rfl
theorem inX0 : Cond.instantiable RX0 9 ∈ z_T := z_t1 66 rfl rfl
theorem itX0 : Cond.initialized RX0 ∈ z_T := z_t1 4 rfl rfl
theorem mlX1_48 : Cond.methodLink RX1 48 yX0_init ∈ z_T := z_t1 67 rfl rfl
theorem moX3_3 : Cond.methodLink RX3 3 Lib.objectInit ∈ z_T := z_t2 50 rfl rfl
theorem clX3_9 : Cond.classLink RX3 9 RX9 ∈ z_T := z_t2 51 rfl rfl
theorem mlX3_11 : Cond.methodLink RX3 11 yX9_init ∈ z_T := z_t2 52 rfl rfl
theorem moX7_3 : Cond.methodLink RX7 3 Lib.objectInit ∈ z_T := z_t1 219 rfl rfl
theorem moX10_1 : Cond.methodLink RX10 1 Lib.objectInit ∈ z_T := z_t2 0 rfl rfl
theorem clX10_9 : Cond.classLink RX10 9 "PlantedDoubts$Beds" ∈ z_T := z_t2 1 rfl rfl
theorem mlX10_15 : Cond.methodLink RX10 15 yX0_init ∈ z_T := z_t2 3 rfl rfl
theorem moX11_1 : Cond.methodLink RX11 1 Lib.objectInit ∈ z_T := z_t1 27 rfl rfl
theorem clX11_7 : Cond.classLink RX11 7 RX1 ∈ z_T := z_t1 30 rfl rfl
theorem inX1 : Cond.instantiable RX1 14 ∈ z_T := z_t1 31 rfl rfl
theorem itX1 : Cond.initialized RX1 ∈ z_T := z_t1 2 rfl rfl
theorem clX11_23 : Cond.classLink RX11 23 RX5 ∈ z_T := z_t1 201 rfl rfl
theorem inX5 : Cond.instantiable RX5 2 ∈ z_T := z_t1 202 rfl rfl
theorem itX5 : Cond.initialized RX5 ∈ z_T := z_t1 5 rfl rfl
theorem clX11_30 : Cond.classLink RX11 30 RX7 ∈ z_T := z_t1 214 rfl rfl
theorem inX7 : Cond.instantiable RX7 4 ∈ z_T := z_t1 215 rfl rfl
theorem itX7 : Cond.initialized RX7 ∈ z_T := z_t1 6 rfl rfl
theorem mlX11_36 : Cond.methodLink RX11 36 yX7_init ∈ z_T := z_t1 216 rfl rfl
theorem clX11_43 : Cond.classLink RX11 43 RX0 ∈ z_T := z_t1 233 rfl rfl
theorem mlX11_45 : Cond.methodLink RX11 45 yX0_init ∈ z_T := z_t1 234 rfl rfl
theorem clX11_49 : Cond.classLink RX11 49 RX10 ∈ z_T := z_t1 235 rfl rfl
theorem inX10 : Cond.instantiable RX10 3 ∈ z_T := z_t1 236 rfl rfl
theorem itX10 : Cond.initialized RX10 ∈ z_T := z_t1 7 rfl rfl
theorem mlX11_51 : Cond.methodLink RX11 51 yX10_init ∈ z_T := z_t1 237 rfl rfl
theorem clX11_56 : Cond.classLink RX11 56 RX8 ∈ z_T := z_t2 15 rfl rfl
theorem inX8 : Cond.instantiable RX8 6 ∈ z_T := z_t2 16 rfl rfl
theorem itX8 : Cond.initialized RX8 ∈ z_T := z_t1 8 rfl rfl
theorem clX11_63 : Cond.classLink RX11 63 RX3 ∈ z_T := z_t2 45 rfl rfl
theorem inX3 : Cond.instantiable RX3 10 ∈ z_T := z_t2 46 rfl rfl
theorem itX3 : Cond.initialized RX3 ∈ z_T := z_t1 9 rfl rfl
theorem mlX11_65 : Cond.methodLink RX11 65 yX3_init ∈ z_T := z_t2 47 rfl rfl
theorem clX11_72 : Cond.classLink RX11 72 RX2 ∈ z_T := z_t2 87 rfl rfl
theorem inX2 : Cond.instantiable RX2 5 ∈ z_T := z_t2 88 rfl rfl
theorem itX2 : Cond.initialized RX2 ∈ z_T := z_t1 10 rfl rfl
theorem clX11_79 : Cond.classLink RX11 79 RX6 ∈ z_T := z_t2 111 rfl rfl
theorem inX6 : Cond.instantiable RX6 2 ∈ z_T := z_t2 112 rfl rfl
theorem itX6 : Cond.initialized RX6 ∈ z_T := z_t1 11 rfl rfl
theorem clX11_86 : Cond.classLink RX11 86 RX4 ∈ z_T := z_t2 124 rfl rfl
theorem inX4 : Cond.instantiable RX4 1 ∈ z_T := z_t2 125 rfl rfl
theorem itX4 : Cond.initialized RX4 ∈ z_T := z_t1 12 rfl rfl
theorem kiX0 : n_Ki yX0_init cX0_init 2 0 := ⟨z_t1 68 rfl rfl, z_t1 4 rfl rfl, z_t1 69 rfl rfl, by decide, rfl, by decide +kernel⟩
theorem kiX1 : n_Ki yX1_init cX1_init 1 0 := ⟨z_t1 33 rfl rfl, z_t1 2 rfl rfl, z_t1 34 rfl rfl, by decide, rfl, by decide +kernel⟩
theorem kiX2 : n_Ki yX2_init cX2_init 1 0 := ⟨z_t2 90 rfl rfl, z_t1 10 rfl rfl, z_t2 91 rfl rfl, by decide, rfl, by decide +kernel⟩
theorem kiX3 : n_Ki yX3_init cX3_init 2 1 := ⟨z_t2 48 rfl rfl, z_t1 9 rfl rfl, z_t2 49 rfl rfl, by decide, rfl, by decide +kernel⟩
theorem kiX4 : n_Ki yX4_init cX4_init 1 0 := ⟨z_t2 127 rfl rfl, z_t1 12 rfl rfl, z_t2 128 rfl rfl, by decide, rfl, by decide +kernel⟩
theorem kiX5 : n_Ki yX5_init cX5_init 1 0 := ⟨z_t1 204 rfl rfl, z_t1 5 rfl rfl, z_t1 205 rfl rfl, by decide, rfl, by decide +kernel⟩
theorem kiX6 : n_Ki yX6_init cX6_init 1 0 := ⟨z_t2 114 rfl rfl, z_t1 11 rfl rfl, z_t2 115 rfl rfl, by decide, rfl, by decide +kernel⟩
theorem kiX7 : n_Ki yX7_init cX7_init 5 4 := ⟨z_t1 217 rfl rfl, z_t1 6 rfl rfl, z_t1 218 rfl rfl, by decide, rfl, by decide +kernel⟩
theorem kiX8 : n_Ki yX8_init cX8_init 1 0 := ⟨z_t2 18 rfl rfl, z_t1 8 rfl rfl, z_t2 19 rfl rfl, by decide, rfl, by decide +kernel⟩
theorem kiX9 : n_Ki yX9_init cX9_init 3 2 := ⟨z_t1 39 rfl rfl, z_t1 3 rfl rfl, z_t1 40 rfl rfl, by decide, rfl, by decide +kernel⟩
theorem kiX10 : n_Ki yX10_init cX10_init 2 0 := ⟨z_t1 238 rfl rfl, z_t1 7 rfl rfl, z_t1 239 rfl rfl, by decide, rfl, by decide +kernel⟩
theorem kiX11 : n_Ki yX11_init cX11_init 1 0 := ⟨z_t1 25 rfl rfl, z_t1 1 rfl rfl, z_t1 26 rfl rfl, by decide, rfl, by decide +kernel⟩
theorem kiX12 : n_Ki yX12_init cX12_init 1 0 := ⟨z_t5 144 rfl rfl, z_t1 13 rfl rfl, z_t5 145 rfl rfl, by decide, rfl, by decide +kernel⟩
theorem dX12_init_0 : decode cX12_init 0 = .ok (.aload_n 0, 1) := by decide +kernel
theorem dX12_init_1 : decode cX12_init 1 = .ok (.invokespecial 1, 3) := by decide +kernel
theorem dX12_init_4 : decode cX12_init 4 = .ok (.aload_n 0, 1) := by decide +kernel
theorem dX12_init_5 : decode cX12_init 5 = .ok (.bipush 100, 2) := by decide +kernel
theorem dX12_init_7 : decode cX12_init 7 = .ok (.newarray .int, 2) := by decide +kernel
theorem dX12_init_9 : decode cX12_init 9 = .ok (.putfield 7, 3) := by decide +kernel
theorem dX12_init_12 : decode cX12_init 12 = .ok (.aload_n 0, 1) := by decide +kernel
theorem dX12_init_13 : decode cX12_init 13 = .ok (.sipush 600, 3) := by decide +kernel
theorem dX12_init_16 : decode cX12_init 16 = .ok (.newarray .int, 2) := by decide +kernel
theorem dX12_init_18 : decode cX12_init 18 = .ok (.putfield 13, 3) := by decide +kernel
theorem dX12_init_21 : decode cX12_init 21 = .ok (.aload_n 0, 1) := by decide +kernel
theorem dX12_init_22 : decode cX12_init 22 = .ok (.bipush 100, 2) := by decide +kernel
theorem dX12_init_24 : decode cX12_init 24 = .ok (.newarray .int, 2) := by decide +kernel
theorem dX12_init_26 : decode cX12_init 26 = .ok (.putfield 16, 3) := by decide +kernel
theorem dX12_init_29 : decode cX12_init 29 = .ok (.aload_n 0, 1) := by decide +kernel
theorem dX12_init_30 : decode cX12_init 30 = .ok (.bipush 8, 2) := by decide +kernel
theorem dX12_init_32 : decode cX12_init 32 = .ok (.newarray .int, 2) := by decide +kernel
theorem dX12_init_34 : decode cX12_init 34 = .ok (.putfield 19, 3) := by decide +kernel
theorem dX12_init_37 : decode cX12_init 37 = .ok (.aload_n 0, 1) := by decide +kernel
theorem dX12_init_38 : decode cX12_init 38 = .ok (.bipush 8, 2) := by decide +kernel
theorem dX12_init_40 : decode cX12_init 40 = .ok (.newarray .int, 2) := by decide +kernel
theorem dX12_init_42 : decode cX12_init 42 = .ok (.putfield 22, 3) := by decide +kernel
theorem dX12_init_45 : decode cX12_init 45 = .ok (.aload_n 0, 1) := by decide +kernel
theorem dX12_init_46 : decode cX12_init 46 = .ok (.sipush 600, 3) := by decide +kernel
theorem dX12_init_49 : decode cX12_init 49 = .ok (.newarray .int, 2) := by decide +kernel
theorem dX12_init_51 : decode cX12_init 51 = .ok (.putfield 25, 3) := by decide +kernel
theorem dX12_init_54 : decode cX12_init 54 = .ok (.aload_n 0, 1) := by decide +kernel
theorem dX12_init_55 : decode cX12_init 55 = .ok (.sipush 400, 3) := by decide +kernel
theorem dX12_init_58 : decode cX12_init 58 = .ok (.newarray .int, 2) := by decide +kernel
theorem dX12_init_60 : decode cX12_init 60 = .ok (.putfield 28, 3) := by decide +kernel
theorem dX12_init_63 : decode cX12_init 63 = .ok (.aload_n 0, 1) := by decide +kernel
theorem dX12_init_64 : decode cX12_init 64 = .ok (.sipush 145, 3) := by decide +kernel
theorem dX12_init_67 : decode cX12_init 67 = .ok (.newarray .int, 2) := by decide +kernel
theorem dX12_init_69 : decode cX12_init 69 = .ok (.dup, 1) := by decide +kernel
theorem dX12_init_70 : decode cX12_init 70 = .ok (.iconst 0, 1) := by decide +kernel
theorem dX12_init_71 : decode cX12_init 71 = .ok (.bipush 32, 2) := by decide +kernel
theorem dX12_init_73 : decode cX12_init 73 = .ok (.iastore, 1) := by decide +kernel
theorem dX12_init_74 : decode cX12_init 74 = .ok (.dup, 1) := by decide +kernel
theorem dX12_init_75 : decode cX12_init 75 = .ok (.iconst 1, 1) := by decide +kernel
theorem dX12_init_76 : decode cX12_init 76 = .ok (.bipush 103, 2) := by decide +kernel
theorem dX12_init_78 : decode cX12_init 78 = .ok (.iastore, 1) := by decide +kernel
theorem dX12_init_79 : decode cX12_init 79 = .ok (.dup, 1) := by decide +kernel
theorem dX12_init_80 : decode cX12_init 80 = .ok (.iconst 2, 1) := by decide +kernel
theorem dX12_init_81 : decode cX12_init 81 = .ok (.bipush 114, 2) := by decide +kernel
theorem dX12_init_83 : decode cX12_init 83 = .ok (.iastore, 1) := by decide +kernel
theorem dX12_init_84 : decode cX12_init 84 = .ok (.dup, 1) := by decide +kernel
theorem dX12_init_85 : decode cX12_init 85 = .ok (.iconst 3, 1) := by decide +kernel
theorem dX12_init_86 : decode cX12_init 86 = .ok (.bipush 111, 2) := by decide +kernel
theorem dX12_init_88 : decode cX12_init 88 = .ok (.iastore, 1) := by decide +kernel
theorem dX12_init_89 : decode cX12_init 89 = .ok (.dup, 1) := by decide +kernel
theorem dX12_init_90 : decode cX12_init 90 = .ok (.iconst 4, 1) := by decide +kernel
theorem dX12_init_91 : decode cX12_init 91 = .ok (.bipush 119, 2) := by decide +kernel
theorem dX12_init_93 : decode cX12_init 93 = .ok (.iastore, 1) := by decide +kernel
theorem dX12_init_94 : decode cX12_init 94 = .ok (.dup, 1) := by decide +kernel
theorem dX12_init_95 : decode cX12_init 95 = .ok (.iconst 5, 1) := by decide +kernel
theorem dX12_init_96 : decode cX12_init 96 = .ok (.bipush 32, 2) := by decide +kernel
theorem dX12_init_98 : decode cX12_init 98 = .ok (.iastore, 1) := by decide +kernel
theorem dX12_init_99 : decode cX12_init 99 = .ok (.dup, 1) := by decide +kernel
theorem dX12_init_100 : decode cX12_init 100 = .ok (.bipush 6, 2) := by decide +kernel
theorem dX12_init_102 : decode cX12_init 102 = .ok (.bipush 108, 2) := by decide +kernel
theorem dX12_init_104 : decode cX12_init 104 = .ok (.iastore, 1) := by decide +kernel
theorem dX12_init_105 : decode cX12_init 105 = .ok (.dup, 1) := by decide +kernel
theorem dX12_init_106 : decode cX12_init 106 = .ok (.bipush 7, 2) := by decide +kernel
theorem dX12_init_108 : decode cX12_init 108 = .ok (.bipush 111, 2) := by decide +kernel
theorem dX12_init_110 : decode cX12_init 110 = .ok (.iastore, 1) := by decide +kernel
theorem dX12_init_111 : decode cX12_init 111 = .ok (.dup, 1) := by decide +kernel
theorem dX12_init_112 : decode cX12_init 112 = .ok (.bipush 8, 2) := by decide +kernel
theorem dX12_init_114 : decode cX12_init 114 = .ok (.bipush 119, 2) := by decide +kernel
theorem dX12_init_116 : decode cX12_init 116 = .ok (.iastore, 1) := by decide +kernel
theorem dX12_init_117 : decode cX12_init 117 = .ok (.dup, 1) := by decide +kernel
theorem dX12_init_118 : decode cX12_init 118 = .ok (.bipush 9, 2) := by decide +kernel
theorem dX12_init_120 : decode cX12_init 120 = .ok (.bipush 101, 2) := by decide +kernel
theorem dX12_init_122 : decode cX12_init 122 = .ok (.iastore, 1) := by decide +kernel
theorem dX12_init_123 : decode cX12_init 123 = .ok (.dup, 1) := by decide +kernel
theorem dX12_init_124 : decode cX12_init 124 = .ok (.bipush 10, 2) := by decide +kernel
theorem dX12_init_126 : decode cX12_init 126 = .ok (.bipush 114, 2) := by decide +kernel
theorem dX12_init_128 : decode cX12_init 128 = .ok (.iastore, 1) := by decide +kernel
theorem dX12_init_129 : decode cX12_init 129 = .ok (.dup, 1) := by decide +kernel
theorem dX12_init_130 : decode cX12_init 130 = .ok (.bipush 11, 2) := by decide +kernel
theorem dX12_init_132 : decode cX12_init 132 = .ok (.bipush 32, 2) := by decide +kernel
theorem dX12_init_134 : decode cX12_init 134 = .ok (.iastore, 1) := by decide +kernel
theorem dX12_init_135 : decode cX12_init 135 = .ok (.dup, 1) := by decide +kernel
theorem dX12_init_136 : decode cX12_init 136 = .ok (.bipush 12, 2) := by decide +kernel
theorem dX12_init_138 : decode cX12_init 138 = .ok (.bipush 115, 2) := by decide +kernel
theorem dX12_init_140 : decode cX12_init 140 = .ok (.iastore, 1) := by decide +kernel
theorem dX12_init_141 : decode cX12_init 141 = .ok (.dup, 1) := by decide +kernel
theorem dX12_init_142 : decode cX12_init 142 = .ok (.bipush 13, 2) := by decide +kernel
theorem dX12_init_144 : decode cX12_init 144 = .ok (.bipush 101, 2) := by decide +kernel
theorem dX12_init_146 : decode cX12_init 146 = .ok (.iastore, 1) := by decide +kernel
theorem dX12_init_147 : decode cX12_init 147 = .ok (.dup, 1) := by decide +kernel
theorem dX12_init_148 : decode cX12_init 148 = .ok (.bipush 14, 2) := by decide +kernel
theorem dX12_init_150 : decode cX12_init 150 = .ok (.bipush 101, 2) := by decide +kernel
theorem dX12_init_152 : decode cX12_init 152 = .ok (.iastore, 1) := by decide +kernel
theorem dX12_init_153 : decode cX12_init 153 = .ok (.dup, 1) := by decide +kernel
theorem dX12_init_154 : decode cX12_init 154 = .ok (.bipush 15, 2) := by decide +kernel
theorem dX12_init_156 : decode cX12_init 156 = .ok (.bipush 100, 2) := by decide +kernel
theorem dX12_init_158 : decode cX12_init 158 = .ok (.iastore, 1) := by decide +kernel
theorem dX12_init_159 : decode cX12_init 159 = .ok (.dup, 1) := by decide +kernel
theorem dX12_init_160 : decode cX12_init 160 = .ok (.bipush 16, 2) := by decide +kernel
theorem dX12_init_162 : decode cX12_init 162 = .ok (.bipush 32, 2) := by decide +kernel
theorem dX12_init_164 : decode cX12_init 164 = .ok (.iastore, 1) := by decide +kernel
theorem dX12_init_165 : decode cX12_init 165 = .ok (.dup, 1) := by decide +kernel
theorem dX12_init_166 : decode cX12_init 166 = .ok (.bipush 17, 2) := by decide +kernel
theorem dX12_init_168 : decode cX12_init 168 = .ok (.bipush 119, 2) := by decide +kernel
theorem dX12_init_170 : decode cX12_init 170 = .ok (.iastore, 1) := by decide +kernel
theorem dX12_init_171 : decode cX12_init 171 = .ok (.dup, 1) := by decide +kernel
theorem dX12_init_172 : decode cX12_init 172 = .ok (.bipush 18, 2) := by decide +kernel
theorem dX12_init_174 : decode cX12_init 174 = .ok (.bipush 104, 2) := by decide +kernel
theorem dX12_init_176 : decode cX12_init 176 = .ok (.iastore, 1) := by decide +kernel
theorem dX12_init_177 : decode cX12_init 177 = .ok (.dup, 1) := by decide +kernel
theorem dX12_init_178 : decode cX12_init 178 = .ok (.bipush 19, 2) := by decide +kernel
theorem dX12_init_180 : decode cX12_init 180 = .ok (.bipush 101, 2) := by decide +kernel
theorem dX12_init_182 : decode cX12_init 182 = .ok (.iastore, 1) := by decide +kernel
theorem dX12_init_183 : decode cX12_init 183 = .ok (.dup, 1) := by decide +kernel
theorem dX12_init_184 : decode cX12_init 184 = .ok (.bipush 20, 2) := by decide +kernel
theorem dX12_init_186 : decode cX12_init 186 = .ok (.bipush 110, 2) := by decide +kernel
theorem dX12_init_188 : decode cX12_init 188 = .ok (.iastore, 1) := by decide +kernel
theorem dX12_init_189 : decode cX12_init 189 = .ok (.dup, 1) := by decide +kernel
theorem dX12_init_190 : decode cX12_init 190 = .ok (.bipush 21, 2) := by decide +kernel
theorem dX12_init_192 : decode cX12_init 192 = .ok (.bipush 32, 2) := by decide +kernel
theorem dX12_init_194 : decode cX12_init 194 = .ok (.iastore, 1) := by decide +kernel
theorem dX12_init_195 : decode cX12_init 195 = .ok (.dup, 1) := by decide +kernel
theorem dX12_init_196 : decode cX12_init 196 = .ok (.bipush 22, 2) := by decide +kernel
theorem dX12_init_198 : decode cX12_init 198 = .ok (.bipush 111, 2) := by decide +kernel
theorem dX12_init_200 : decode cX12_init 200 = .ok (.iastore, 1) := by decide +kernel
theorem dX12_init_201 : decode cX12_init 201 = .ok (.dup, 1) := by decide +kernel
theorem dX12_init_202 : decode cX12_init 202 = .ok (.bipush 23, 2) := by decide +kernel
theorem dX12_init_204 : decode cX12_init 204 = .ok (.bipush 114, 2) := by decide +kernel
theorem dX12_init_206 : decode cX12_init 206 = .ok (.iastore, 1) := by decide +kernel
theorem dX12_init_207 : decode cX12_init 207 = .ok (.dup, 1) := by decide +kernel
theorem dX12_init_208 : decode cX12_init 208 = .ok (.bipush 24, 2) := by decide +kernel
theorem dX12_init_210 : decode cX12_init 210 = .ok (.bipush 32, 2) := by decide +kernel
theorem dX12_init_212 : decode cX12_init 212 = .ok (.iastore, 1) := by decide +kernel
theorem dX12_init_213 : decode cX12_init 213 = .ok (.dup, 1) := by decide +kernel
theorem dX12_init_214 : decode cX12_init 214 = .ok (.bipush 25, 2) := by decide +kernel
theorem dX12_init_216 : decode cX12_init 216 = .ok (.bipush 97, 2) := by decide +kernel
theorem dX12_init_218 : decode cX12_init 218 = .ok (.iastore, 1) := by decide +kernel
theorem dX12_init_219 : decode cX12_init 219 = .ok (.dup, 1) := by decide +kernel
theorem dX12_init_220 : decode cX12_init 220 = .ok (.bipush 26, 2) := by decide +kernel
theorem dX12_init_222 : decode cX12_init 222 = .ok (.bipush 110, 2) := by decide +kernel
theorem dX12_init_224 : decode cX12_init 224 = .ok (.iastore, 1) := by decide +kernel
theorem dX12_init_225 : decode cX12_init 225 = .ok (.dup, 1) := by decide +kernel
theorem dX12_init_226 : decode cX12_init 226 = .ok (.bipush 27, 2) := by decide +kernel
theorem dX12_init_228 : decode cX12_init 228 = .ok (.bipush 100, 2) := by decide +kernel
theorem dX12_init_230 : decode cX12_init 230 = .ok (.iastore, 1) := by decide +kernel
theorem dX12_init_231 : decode cX12_init 231 = .ok (.dup, 1) := by decide +kernel
theorem dX12_init_232 : decode cX12_init 232 = .ok (.bipush 28, 2) := by decide +kernel
theorem dX12_init_234 : decode cX12_init 234 = .ok (.bipush 32, 2) := by decide +kernel
theorem dX12_init_236 : decode cX12_init 236 = .ok (.iastore, 1) := by decide +kernel
theorem dX12_init_237 : decode cX12_init 237 = .ok (.dup, 1) := by decide +kernel
theorem dX12_init_238 : decode cX12_init 238 = .ok (.bipush 29, 2) := by decide +kernel
theorem dX12_init_240 : decode cX12_init 240 = .ok (.bipush 110, 2) := by decide +kernel
theorem dX12_init_242 : decode cX12_init 242 = .ok (.iastore, 1) := by decide +kernel
theorem dX12_init_243 : decode cX12_init 243 = .ok (.dup, 1) := by decide +kernel
theorem dX12_init_244 : decode cX12_init 244 = .ok (.bipush 30, 2) := by decide +kernel
theorem dX12_init_246 : decode cX12_init 246 = .ok (.bipush 111, 2) := by decide +kernel
theorem dX12_init_248 : decode cX12_init 248 = .ok (.iastore, 1) := by decide +kernel
theorem dX12_init_249 : decode cX12_init 249 = .ok (.dup, 1) := by decide +kernel
theorem dX12_init_250 : decode cX12_init 250 = .ok (.bipush 31, 2) := by decide +kernel
theorem dX12_init_252 : decode cX12_init 252 = .ok (.bipush 116, 2) := by decide +kernel
theorem dX12_init_254 : decode cX12_init 254 = .ok (.iastore, 1) := by decide +kernel
theorem dX12_init_255 : decode cX12_init 255 = .ok (.dup, 1) := by decide +kernel
theorem dX12_init_256 : decode cX12_init 256 = .ok (.bipush 32, 2) := by decide +kernel
theorem dX12_init_258 : decode cX12_init 258 = .ok (.bipush 32, 2) := by decide +kernel
theorem dX12_init_260 : decode cX12_init 260 = .ok (.iastore, 1) := by decide +kernel
theorem dX12_init_261 : decode cX12_init 261 = .ok (.dup, 1) := by decide +kernel
theorem dX12_init_262 : decode cX12_init 262 = .ok (.bipush 33, 2) := by decide +kernel
theorem dX12_init_264 : decode cX12_init 264 = .ok (.bipush 104, 2) := by decide +kernel
theorem dX12_init_266 : decode cX12_init 266 = .ok (.iastore, 1) := by decide +kernel
theorem dX12_init_267 : decode cX12_init 267 = .ok (.dup, 1) := by decide +kernel
theorem dX12_init_268 : decode cX12_init 268 = .ok (.bipush 34, 2) := by decide +kernel
theorem dX12_init_270 : decode cX12_init 270 = .ok (.bipush 101, 2) := by decide +kernel
theorem dX12_init_272 : decode cX12_init 272 = .ok (.iastore, 1) := by decide +kernel
theorem dX12_init_273 : decode cX12_init 273 = .ok (.dup, 1) := by decide +kernel
theorem dX12_init_274 : decode cX12_init 274 = .ok (.bipush 35, 2) := by decide +kernel
theorem dX12_init_276 : decode cX12_init 276 = .ok (.bipush 105, 2) := by decide +kernel
theorem dX12_init_278 : decode cX12_init 278 = .ok (.iastore, 1) := by decide +kernel
theorem dX12_init_279 : decode cX12_init 279 = .ok (.dup, 1) := by decide +kernel
theorem dX12_init_280 : decode cX12_init 280 = .ok (.bipush 36, 2) := by decide +kernel
theorem dX12_init_282 : decode cX12_init 282 = .ok (.bipush 103, 2) := by decide +kernel
theorem dX12_init_284 : decode cX12_init 284 = .ok (.iastore, 1) := by decide +kernel
theorem dX12_init_285 : decode cX12_init 285 = .ok (.dup, 1) := by decide +kernel
theorem dX12_init_286 : decode cX12_init 286 = .ok (.bipush 37, 2) := by decide +kernel
theorem dX12_init_288 : decode cX12_init 288 = .ok (.bipush 104, 2) := by decide +kernel
theorem dX12_init_290 : decode cX12_init 290 = .ok (.iastore, 1) := by decide +kernel
theorem dX12_init_291 : decode cX12_init 291 = .ok (.dup, 1) := by decide +kernel
theorem dX12_init_292 : decode cX12_init 292 = .ok (.bipush 38, 2) := by decide +kernel
theorem dX12_init_294 : decode cX12_init 294 = .ok (.bipush 116, 2) := by decide +kernel
theorem dX12_init_296 : decode cX12_init 296 = .ok (.iastore, 1) := by decide +kernel
theorem dX12_init_297 : decode cX12_init 297 = .ok (.dup, 1) := by decide +kernel
theorem dX12_init_298 : decode cX12_init 298 = .ok (.bipush 39, 2) := by decide +kernel
theorem dX12_init_300 : decode cX12_init 300 = .ok (.bipush 32, 2) := by decide +kernel
theorem dX12_init_302 : decode cX12_init 302 = .ok (.iastore, 1) := by decide +kernel
theorem dX12_init_303 : decode cX12_init 303 = .ok (.dup, 1) := by decide +kernel
theorem dX12_init_304 : decode cX12_init 304 = .ok (.bipush 40, 2) := by decide +kernel
theorem dX12_init_306 : decode cX12_init 306 = .ok (.bipush 116, 2) := by decide +kernel
theorem dX12_init_308 : decode cX12_init 308 = .ok (.iastore, 1) := by decide +kernel
theorem dX12_init_309 : decode cX12_init 309 = .ok (.dup, 1) := by decide +kernel
theorem dX12_init_310 : decode cX12_init 310 = .ok (.bipush 41, 2) := by decide +kernel
theorem dX12_init_312 : decode cX12_init 312 = .ok (.bipush 101, 2) := by decide +kernel
theorem dX12_init_314 : decode cX12_init 314 = .ok (.iastore, 1) := by decide +kernel
theorem dX12_init_315 : decode cX12_init 315 = .ok (.dup, 1) := by decide +kernel
theorem dX12_init_316 : decode cX12_init 316 = .ok (.bipush 42, 2) := by decide +kernel
theorem dX12_init_318 : decode cX12_init 318 = .ok (.bipush 110, 2) := by decide +kernel
theorem dX12_init_320 : decode cX12_init 320 = .ok (.iastore, 1) := by decide +kernel
theorem dX12_init_321 : decode cX12_init 321 = .ok (.dup, 1) := by decide +kernel
theorem dX12_init_322 : decode cX12_init 322 = .ok (.bipush 43, 2) := by decide +kernel
theorem dX12_init_324 : decode cX12_init 324 = .ok (.bipush 100, 2) := by decide +kernel
theorem dX12_init_326 : decode cX12_init 326 = .ok (.iastore, 1) := by decide +kernel
theorem dX12_init_327 : decode cX12_init 327 = .ok (.dup, 1) := by decide +kernel
theorem dX12_init_328 : decode cX12_init 328 = .ok (.bipush 44, 2) := by decide +kernel
theorem dX12_init_330 : decode cX12_init 330 = .ok (.bipush 101, 2) := by decide +kernel
theorem dX12_init_332 : decode cX12_init 332 = .ok (.iastore, 1) := by decide +kernel
theorem dX12_init_333 : decode cX12_init 333 = .ok (.dup, 1) := by decide +kernel
theorem dX12_init_334 : decode cX12_init 334 = .ok (.bipush 45, 2) := by decide +kernel
theorem dX12_init_336 : decode cX12_init 336 = .ok (.bipush 114, 2) := by decide +kernel
theorem dX12_init_338 : decode cX12_init 338 = .ok (.iastore, 1) := by decide +kernel
theorem dX12_init_339 : decode cX12_init 339 = .ok (.dup, 1) := by decide +kernel
theorem dX12_init_340 : decode cX12_init 340 = .ok (.bipush 46, 2) := by decide +kernel
theorem dX12_init_342 : decode cX12_init 342 = .ok (.bipush 32, 2) := by decide +kernel
theorem dX12_init_344 : decode cX12_init 344 = .ok (.iastore, 1) := by decide +kernel
theorem dX12_init_345 : decode cX12_init 345 = .ok (.dup, 1) := by decide +kernel
theorem dX12_init_346 : decode cX12_init 346 = .ok (.bipush 47, 2) := by decide +kernel
theorem dX12_init_348 : decode cX12_init 348 = .ok (.bipush 119, 2) := by decide +kernel
theorem dX12_init_350 : decode cX12_init 350 = .ok (.iastore, 1) := by decide +kernel
theorem dX12_init_351 : decode cX12_init 351 = .ok (.dup, 1) := by decide +kernel
theorem dX12_init_352 : decode cX12_init 352 = .ok (.bipush 48, 2) := by decide +kernel
theorem dX12_init_354 : decode cX12_init 354 = .ok (.bipush 97, 2) := by decide +kernel
theorem dX12_init_356 : decode cX12_init 356 = .ok (.iastore, 1) := by decide +kernel
theorem dX12_init_357 : decode cX12_init 357 = .ok (.dup, 1) := by decide +kernel
theorem dX12_init_358 : decode cX12_init 358 = .ok (.bipush 49, 2) := by decide +kernel
theorem dX12_init_360 : decode cX12_init 360 = .ok (.bipush 116, 2) := by decide +kernel
theorem dX12_init_362 : decode cX12_init 362 = .ok (.iastore, 1) := by decide +kernel
theorem dX12_init_363 : decode cX12_init 363 = .ok (.dup, 1) := by decide +kernel
theorem dX12_init_364 : decode cX12_init 364 = .ok (.bipush 50, 2) := by decide +kernel
theorem dX12_init_366 : decode cX12_init 366 = .ok (.bipush 101, 2) := by decide +kernel
theorem dX12_init_368 : decode cX12_init 368 = .ok (.iastore, 1) := by decide +kernel
theorem dX12_init_369 : decode cX12_init 369 = .ok (.dup, 1) := by decide +kernel
theorem dX12_init_370 : decode cX12_init 370 = .ok (.bipush 51, 2) := by decide +kernel
theorem dX12_init_372 : decode cX12_init 372 = .ok (.bipush 114, 2) := by decide +kernel
theorem dX12_init_374 : decode cX12_init 374 = .ok (.iastore, 1) := by decide +kernel
theorem dX12_init_375 : decode cX12_init 375 = .ok (.dup, 1) := by decide +kernel
theorem dX12_init_376 : decode cX12_init 376 = .ok (.bipush 52, 2) := by decide +kernel
theorem dX12_init_378 : decode cX12_init 378 = .ok (.bipush 32, 2) := by decide +kernel
theorem dX12_init_380 : decode cX12_init 380 = .ok (.iastore, 1) := by decide +kernel
theorem dX12_init_381 : decode cX12_init 381 = .ok (.dup, 1) := by decide +kernel
theorem dX12_init_382 : decode cX12_init 382 = .ok (.bipush 53, 2) := by decide +kernel
theorem dX12_init_384 : decode cX12_init 384 = .ok (.bipush 100, 2) := by decide +kernel
theorem dX12_init_386 : decode cX12_init 386 = .ok (.iastore, 1) := by decide +kernel
theorem dX12_init_387 : decode cX12_init 387 = .ok (.dup, 1) := by decide +kernel
theorem dX12_init_388 : decode cX12_init 388 = .ok (.bipush 54, 2) := by decide +kernel
theorem dX12_init_390 : decode cX12_init 390 = .ok (.bipush 101, 2) := by decide +kernel
theorem dX12_init_392 : decode cX12_init 392 = .ok (.iastore, 1) := by decide +kernel
theorem dX12_init_393 : decode cX12_init 393 = .ok (.dup, 1) := by decide +kernel
theorem dX12_init_394 : decode cX12_init 394 = .ok (.bipush 55, 2) := by decide +kernel
theorem dX12_init_396 : decode cX12_init 396 = .ok (.bipush 103, 2) := by decide +kernel
theorem dX12_init_398 : decode cX12_init 398 = .ok (.iastore, 1) := by decide +kernel
theorem dX12_init_399 : decode cX12_init 399 = .ok (.dup, 1) := by decide +kernel
theorem dX12_init_400 : decode cX12_init 400 = .ok (.bipush 56, 2) := by decide +kernel
theorem dX12_init_402 : decode cX12_init 402 = .ok (.bipush 114, 2) := by decide +kernel
theorem dX12_init_404 : decode cX12_init 404 = .ok (.iastore, 1) := by decide +kernel
theorem dX12_init_405 : decode cX12_init 405 = .ok (.dup, 1) := by decide +kernel
theorem dX12_init_406 : decode cX12_init 406 = .ok (.bipush 57, 2) := by decide +kernel
theorem dX12_init_408 : decode cX12_init 408 = .ok (.bipush 101, 2) := by decide +kernel
theorem dX12_init_410 : decode cX12_init 410 = .ok (.iastore, 1) := by decide +kernel
theorem dX12_init_411 : decode cX12_init 411 = .ok (.dup, 1) := by decide +kernel
theorem dX12_init_412 : decode cX12_init 412 = .ok (.bipush 58, 2) := by decide +kernel
theorem dX12_init_414 : decode cX12_init 414 = .ok (.bipush 101, 2) := by decide +kernel
theorem dX12_init_416 : decode cX12_init 416 = .ok (.iastore, 1) := by decide +kernel
theorem dX12_init_417 : decode cX12_init 417 = .ok (.dup, 1) := by decide +kernel
theorem dX12_init_418 : decode cX12_init 418 = .ok (.bipush 59, 2) := by decide +kernel
theorem dX12_init_420 : decode cX12_init 420 = .ok (.bipush 32, 2) := by decide +kernel
theorem dX12_init_422 : decode cX12_init 422 = .ok (.iastore, 1) := by decide +kernel
theorem dX12_init_423 : decode cX12_init 423 = .ok (.dup, 1) := by decide +kernel
theorem dX12_init_424 : decode cX12_init 424 = .ok (.bipush 60, 2) := by decide +kernel
theorem dX12_init_426 : decode cX12_init 426 = .ok (.bipush 116, 2) := by decide +kernel
theorem dX12_init_428 : decode cX12_init 428 = .ok (.iastore, 1) := by decide +kernel
theorem dX12_init_429 : decode cX12_init 429 = .ok (.dup, 1) := by decide +kernel
theorem dX12_init_430 : decode cX12_init 430 = .ok (.bipush 61, 2) := by decide +kernel
theorem dX12_init_432 : decode cX12_init 432 = .ok (.bipush 104, 2) := by decide +kernel
theorem dX12_init_434 : decode cX12_init 434 = .ok (.iastore, 1) := by decide +kernel
theorem dX12_init_435 : decode cX12_init 435 = .ok (.dup, 1) := by decide +kernel
theorem dX12_init_436 : decode cX12_init 436 = .ok (.bipush 62, 2) := by decide +kernel
theorem dX12_init_438 : decode cX12_init 438 = .ok (.bipush 105, 2) := by decide +kernel
theorem dX12_init_440 : decode cX12_init 440 = .ok (.iastore, 1) := by decide +kernel
theorem dX12_init_441 : decode cX12_init 441 = .ok (.dup, 1) := by decide +kernel
theorem dX12_init_442 : decode cX12_init 442 = .ok (.bipush 63, 2) := by decide +kernel
theorem dX12_init_444 : decode cX12_init 444 = .ok (.bipush 110, 2) := by decide +kernel
theorem dX12_init_446 : decode cX12_init 446 = .ok (.iastore, 1) := by decide +kernel
theorem dX12_init_447 : decode cX12_init 447 = .ok (.dup, 1) := by decide +kernel
theorem dX12_init_448 : decode cX12_init 448 = .ok (.bipush 64, 2) := by decide +kernel
theorem dX12_init_450 : decode cX12_init 450 = .ok (.bipush 103, 2) := by decide +kernel
theorem dX12_init_452 : decode cX12_init 452 = .ok (.iastore, 1) := by decide +kernel
theorem dX12_init_453 : decode cX12_init 453 = .ok (.dup, 1) := by decide +kernel
theorem dX12_init_454 : decode cX12_init 454 = .ok (.bipush 65, 2) := by decide +kernel
theorem dX12_init_456 : decode cX12_init 456 = .ok (.bipush 32, 2) := by decide +kernel
theorem dX12_init_458 : decode cX12_init 458 = .ok (.iastore, 1) := by decide +kernel
theorem dX12_init_459 : decode cX12_init 459 = .ok (.dup, 1) := by decide +kernel
theorem dX12_init_460 : decode cX12_init 460 = .ok (.bipush 66, 2) := by decide +kernel
theorem dX12_init_462 : decode cX12_init 462 = .ok (.bipush 119, 2) := by decide +kernel
theorem dX12_init_464 : decode cX12_init 464 = .ok (.iastore, 1) := by decide +kernel
theorem dX12_init_465 : decode cX12_init 465 = .ok (.dup, 1) := by decide +kernel
theorem dX12_init_466 : decode cX12_init 466 = .ok (.bipush 67, 2) := by decide +kernel
theorem dX12_init_468 : decode cX12_init 468 = .ok (.bipush 101, 2) := by decide +kernel
theorem dX12_init_470 : decode cX12_init 470 = .ok (.iastore, 1) := by decide +kernel
theorem dX12_init_471 : decode cX12_init 471 = .ok (.dup, 1) := by decide +kernel
theorem dX12_init_472 : decode cX12_init 472 = .ok (.bipush 68, 2) := by decide +kernel
theorem dX12_init_474 : decode cX12_init 474 = .ok (.bipush 101, 2) := by decide +kernel
theorem dX12_init_476 : decode cX12_init 476 = .ok (.iastore, 1) := by decide +kernel
theorem dX12_init_477 : decode cX12_init 477 = .ok (.dup, 1) := by decide +kernel
theorem dX12_init_478 : decode cX12_init 478 = .ok (.bipush 69, 2) := by decide +kernel
theorem dX12_init_480 : decode cX12_init 480 = .ok (.bipush 107, 2) := by decide +kernel
theorem dX12_init_482 : decode cX12_init 482 = .ok (.iastore, 1) := by decide +kernel
theorem dX12_init_483 : decode cX12_init 483 = .ok (.dup, 1) := by decide +kernel
theorem dX12_init_484 : decode cX12_init 484 = .ok (.bipush 70, 2) := by decide +kernel
theorem dX12_init_486 : decode cX12_init 486 = .ok (.bipush 32, 2) := by decide +kernel
theorem dX12_init_488 : decode cX12_init 488 = .ok (.iastore, 1) := by decide +kernel
theorem dX12_init_489 : decode cX12_init 489 = .ok (.dup, 1) := by decide +kernel
theorem dX12_init_490 : decode cX12_init 490 = .ok (.bipush 71, 2) := by decide +kernel
theorem dX12_init_492 : decode cX12_init 492 = .ok (.bipush 115, 2) := by decide +kernel
theorem dX12_init_494 : decode cX12_init 494 = .ok (.iastore, 1) := by decide +kernel
theorem dX12_init_495 : decode cX12_init 495 = .ok (.dup, 1) := by decide +kernel
theorem dX12_init_496 : decode cX12_init 496 = .ok (.bipush 72, 2) := by decide +kernel
theorem dX12_init_498 : decode cX12_init 498 = .ok (.bipush 117, 2) := by decide +kernel
theorem dX12_init_500 : decode cX12_init 500 = .ok (.iastore, 1) := by decide +kernel
theorem dX12_init_501 : decode cX12_init 501 = .ok (.dup, 1) := by decide +kernel
theorem dX12_init_502 : decode cX12_init 502 = .ok (.bipush 73, 2) := by decide +kernel
theorem dX12_init_504 : decode cX12_init 504 = .ok (.bipush 114, 2) := by decide +kernel
theorem dX12_init_506 : decode cX12_init 506 = .ok (.iastore, 1) := by decide +kernel
theorem dX12_init_507 : decode cX12_init 507 = .ok (.dup, 1) := by decide +kernel
theorem dX12_init_508 : decode cX12_init 508 = .ok (.bipush 74, 2) := by decide +kernel
theorem dX12_init_510 : decode cX12_init 510 = .ok (.bipush 101, 2) := by decide +kernel
theorem dX12_init_512 : decode cX12_init 512 = .ok (.iastore, 1) := by decide +kernel
theorem dX12_init_513 : decode cX12_init 513 = .ok (.dup, 1) := by decide +kernel
theorem dX12_init_514 : decode cX12_init 514 = .ok (.bipush 75, 2) := by decide +kernel
theorem dX12_init_516 : decode cX12_init 516 = .ok (.bipush 115, 2) := by decide +kernel
theorem dX12_init_518 : decode cX12_init 518 = .ok (.iastore, 1) := by decide +kernel
theorem dX12_init_519 : decode cX12_init 519 = .ok (.dup, 1) := by decide +kernel
theorem dX12_init_520 : decode cX12_init 520 = .ok (.bipush 76, 2) := by decide +kernel
theorem dX12_init_522 : decode cX12_init 522 = .ok (.bipush 32, 2) := by decide +kernel
theorem dX12_init_524 : decode cX12_init 524 = .ok (.iastore, 1) := by decide +kernel
theorem dX12_init_525 : decode cX12_init 525 = .ok (.dup, 1) := by decide +kernel
theorem dX12_init_526 : decode cX12_init 526 = .ok (.bipush 77, 2) := by decide +kernel
theorem dX12_init_528 : decode cX12_init 528 = .ok (.bipush 108, 2) := by decide +kernel
theorem dX12_init_530 : decode cX12_init 530 = .ok (.iastore, 1) := by decide +kernel
theorem dX12_init_531 : decode cX12_init 531 = .ok (.dup, 1) := by decide +kernel
theorem dX12_init_532 : decode cX12_init 532 = .ok (.bipush 78, 2) := by decide +kernel
theorem dX12_init_534 : decode cX12_init 534 = .ok (.bipush 105, 2) := by decide +kernel
theorem dX12_init_536 : decode cX12_init 536 = .ok (.iastore, 1) := by decide +kernel
theorem dX12_init_537 : decode cX12_init 537 = .ok (.dup, 1) := by decide +kernel
theorem dX12_init_538 : decode cX12_init 538 = .ok (.bipush 79, 2) := by decide +kernel
theorem dX12_init_540 : decode cX12_init 540 = .ok (.bipush 110, 2) := by decide +kernel
theorem dX12_init_542 : decode cX12_init 542 = .ok (.iastore, 1) := by decide +kernel
theorem dX12_init_543 : decode cX12_init 543 = .ok (.dup, 1) := by decide +kernel
theorem dX12_init_544 : decode cX12_init 544 = .ok (.bipush 80, 2) := by decide +kernel
theorem dX12_init_546 : decode cX12_init 546 = .ok (.bipush 101, 2) := by decide +kernel
theorem dX12_init_548 : decode cX12_init 548 = .ok (.iastore, 1) := by decide +kernel
theorem dX12_init_549 : decode cX12_init 549 = .ok (.dup, 1) := by decide +kernel
theorem dX12_init_550 : decode cX12_init 550 = .ok (.bipush 81, 2) := by decide +kernel
theorem dX12_init_552 : decode cX12_init 552 = .ok (.bipush 115, 2) := by decide +kernel
theorem dX12_init_554 : decode cX12_init 554 = .ok (.iastore, 1) := by decide +kernel
theorem dX12_init_555 : decode cX12_init 555 = .ok (.dup, 1) := by decide +kernel
theorem dX12_init_556 : decode cX12_init 556 = .ok (.bipush 82, 2) := by decide +kernel
theorem dX12_init_558 : decode cX12_init 558 = .ok (.bipush 32, 2) := by decide +kernel
theorem dX12_init_560 : decode cX12_init 560 = .ok (.iastore, 1) := by decide +kernel
theorem dX12_init_561 : decode cX12_init 561 = .ok (.dup, 1) := by decide +kernel
theorem dX12_init_562 : decode cX12_init 562 = .ok (.bipush 83, 2) := by decide +kernel
theorem dX12_init_564 : decode cX12_init 564 = .ok (.bipush 102, 2) := by decide +kernel
theorem dX12_init_566 : decode cX12_init 566 = .ok (.iastore, 1) := by decide +kernel
theorem dX12_init_567 : decode cX12_init 567 = .ok (.dup, 1) := by decide +kernel
theorem dX12_init_568 : decode cX12_init 568 = .ok (.bipush 84, 2) := by decide +kernel
theorem dX12_init_570 : decode cX12_init 570 = .ok (.bipush 114, 2) := by decide +kernel
theorem dX12_init_572 : decode cX12_init 572 = .ok (.iastore, 1) := by decide +kernel
theorem dX12_init_573 : decode cX12_init 573 = .ok (.dup, 1) := by decide +kernel
theorem dX12_init_574 : decode cX12_init 574 = .ok (.bipush 85, 2) := by decide +kernel
theorem dX12_init_576 : decode cX12_init 576 = .ok (.bipush 111, 2) := by decide +kernel
theorem dX12_init_578 : decode cX12_init 578 = .ok (.iastore, 1) := by decide +kernel
theorem dX12_init_579 : decode cX12_init 579 = .ok (.dup, 1) := by decide +kernel
theorem dX12_init_580 : decode cX12_init 580 = .ok (.bipush 86, 2) := by decide +kernel
theorem dX12_init_582 : decode cX12_init 582 = .ok (.bipush 109, 2) := by decide +kernel
theorem dX12_init_584 : decode cX12_init 584 = .ok (.iastore, 1) := by decide +kernel
theorem dX12_init_585 : decode cX12_init 585 = .ok (.dup, 1) := by decide +kernel
theorem dX12_init_586 : decode cX12_init 586 = .ok (.bipush 87, 2) := by decide +kernel
theorem dX12_init_588 : decode cX12_init 588 = .ok (.bipush 32, 2) := by decide +kernel
theorem dX12_init_590 : decode cX12_init 590 = .ok (.iastore, 1) := by decide +kernel
theorem dX12_init_591 : decode cX12_init 591 = .ok (.dup, 1) := by decide +kernel
theorem dX12_init_592 : decode cX12_init 592 = .ok (.bipush 88, 2) := by decide +kernel
theorem dX12_init_594 : decode cX12_init 594 = .ok (.bipush 103, 2) := by decide +kernel
theorem dX12_init_596 : decode cX12_init 596 = .ok (.iastore, 1) := by decide +kernel
theorem dX12_init_597 : decode cX12_init 597 = .ok (.dup, 1) := by decide +kernel
theorem dX12_init_598 : decode cX12_init 598 = .ok (.bipush 89, 2) := by decide +kernel
theorem dX12_init_600 : decode cX12_init 600 = .ok (.bipush 105, 2) := by decide +kernel
theorem dX12_init_602 : decode cX12_init 602 = .ok (.iastore, 1) := by decide +kernel
theorem dX12_init_603 : decode cX12_init 603 = .ok (.dup, 1) := by decide +kernel
theorem dX12_init_604 : decode cX12_init 604 = .ok (.bipush 90, 2) := by decide +kernel
theorem dX12_init_606 : decode cX12_init 606 = .ok (.bipush 118, 2) := by decide +kernel
theorem dX12_init_608 : decode cX12_init 608 = .ok (.iastore, 1) := by decide +kernel
theorem dX12_init_609 : decode cX12_init 609 = .ok (.dup, 1) := by decide +kernel
theorem dX12_init_610 : decode cX12_init 610 = .ok (.bipush 91, 2) := by decide +kernel
theorem dX12_init_612 : decode cX12_init 612 = .ok (.bipush 101, 2) := by decide +kernel
theorem dX12_init_614 : decode cX12_init 614 = .ok (.iastore, 1) := by decide +kernel
theorem dX12_init_615 : decode cX12_init 615 = .ok (.dup, 1) := by decide +kernel
theorem dX12_init_616 : decode cX12_init 616 = .ok (.bipush 92, 2) := by decide +kernel
theorem dX12_init_618 : decode cX12_init 618 = .ok (.bipush 115, 2) := by decide +kernel
theorem dX12_init_620 : decode cX12_init 620 = .ok (.iastore, 1) := by decide +kernel
theorem dX12_init_621 : decode cX12_init 621 = .ok (.dup, 1) := by decide +kernel
theorem dX12_init_622 : decode cX12_init 622 = .ok (.bipush 93, 2) := by decide +kernel
theorem dX12_init_624 : decode cX12_init 624 = .ok (.bipush 32, 2) := by decide +kernel
theorem dX12_init_626 : decode cX12_init 626 = .ok (.iastore, 1) := by decide +kernel
theorem dX12_init_627 : decode cX12_init 627 = .ok (.dup, 1) := by decide +kernel
theorem dX12_init_628 : decode cX12_init 628 = .ok (.bipush 94, 2) := by decide +kernel
theorem dX12_init_630 : decode cX12_init 630 = .ok (.bipush 99, 2) := by decide +kernel
theorem dX12_init_632 : decode cX12_init 632 = .ok (.iastore, 1) := by decide +kernel
theorem dX12_init_633 : decode cX12_init 633 = .ok (.dup, 1) := by decide +kernel
theorem dX12_init_634 : decode cX12_init 634 = .ok (.bipush 95, 2) := by decide +kernel
theorem dX12_init_636 : decode cX12_init 636 = .ok (.bipush 108, 2) := by decide +kernel
theorem dX12_init_638 : decode cX12_init 638 = .ok (.iastore, 1) := by decide +kernel
theorem dX12_init_639 : decode cX12_init 639 = .ok (.dup, 1) := by decide +kernel
theorem dX12_init_640 : decode cX12_init 640 = .ok (.bipush 96, 2) := by decide +kernel
theorem dX12_init_642 : decode cX12_init 642 = .ok (.bipush 97, 2) := by decide +kernel
theorem dX12_init_644 : decode cX12_init 644 = .ok (.iastore, 1) := by decide +kernel
theorem dX12_init_645 : decode cX12_init 645 = .ok (.dup, 1) := by decide +kernel
theorem dX12_init_646 : decode cX12_init 646 = .ok (.bipush 97, 2) := by decide +kernel
theorem dX12_init_648 : decode cX12_init 648 = .ok (.bipush 115, 2) := by decide +kernel
theorem dX12_init_650 : decode cX12_init 650 = .ok (.iastore, 1) := by decide +kernel
theorem dX12_init_651 : decode cX12_init 651 = .ok (.dup, 1) := by decide +kernel
theorem dX12_init_652 : decode cX12_init 652 = .ok (.bipush 98, 2) := by decide +kernel
theorem dX12_init_654 : decode cX12_init 654 = .ok (.bipush 104, 2) := by decide +kernel
theorem dX12_init_656 : decode cX12_init 656 = .ok (.iastore, 1) := by decide +kernel
theorem dX12_init_657 : decode cX12_init 657 = .ok (.dup, 1) := by decide +kernel
theorem dX12_init_658 : decode cX12_init 658 = .ok (.bipush 99, 2) := by decide +kernel
theorem dX12_init_660 : decode cX12_init 660 = .ok (.bipush 101, 2) := by decide +kernel
theorem dX12_init_662 : decode cX12_init 662 = .ok (.iastore, 1) := by decide +kernel
theorem dX12_init_663 : decode cX12_init 663 = .ok (.dup, 1) := by decide +kernel
theorem dX12_init_664 : decode cX12_init 664 = .ok (.bipush 100, 2) := by decide +kernel
theorem dX12_init_666 : decode cX12_init 666 = .ok (.bipush 115, 2) := by decide +kernel
theorem dX12_init_668 : decode cX12_init 668 = .ok (.iastore, 1) := by decide +kernel
theorem dX12_init_669 : decode cX12_init 669 = .ok (.dup, 1) := by decide +kernel
theorem dX12_init_670 : decode cX12_init 670 = .ok (.bipush 101, 2) := by decide +kernel
theorem dX12_init_672 : decode cX12_init 672 = .ok (.bipush 32, 2) := by decide +kernel
theorem dX12_init_674 : decode cX12_init 674 = .ok (.iastore, 1) := by decide +kernel
theorem dX12_init_675 : decode cX12_init 675 = .ok (.dup, 1) := by decide +kernel
theorem dX12_init_676 : decode cX12_init 676 = .ok (.bipush 102, 2) := by decide +kernel
theorem dX12_init_678 : decode cX12_init 678 = .ok (.bipush 119, 2) := by decide +kernel
theorem dX12_init_680 : decode cX12_init 680 = .ok (.iastore, 1) := by decide +kernel
theorem dX12_init_681 : decode cX12_init 681 = .ok (.dup, 1) := by decide +kernel
theorem dX12_init_682 : decode cX12_init 682 = .ok (.bipush 103, 2) := by decide +kernel
theorem dX12_init_684 : decode cX12_init 684 = .ok (.bipush 111, 2) := by decide +kernel
theorem dX12_init_686 : decode cX12_init 686 = .ok (.iastore, 1) := by decide +kernel
theorem dX12_init_687 : decode cX12_init 687 = .ok (.dup, 1) := by decide +kernel
theorem dX12_init_688 : decode cX12_init 688 = .ok (.bipush 104, 2) := by decide +kernel
theorem dX12_init_690 : decode cX12_init 690 = .ok (.bipush 114, 2) := by decide +kernel
theorem dX12_init_692 : decode cX12_init 692 = .ok (.iastore, 1) := by decide +kernel
theorem dX12_init_693 : decode cX12_init 693 = .ok (.dup, 1) := by decide +kernel
theorem dX12_init_694 : decode cX12_init 694 = .ok (.bipush 105, 2) := by decide +kernel
theorem dX12_init_696 : decode cX12_init 696 = .ok (.bipush 107, 2) := by decide +kernel
theorem dX12_init_698 : decode cX12_init 698 = .ok (.iastore, 1) := by decide +kernel
theorem dX12_init_699 : decode cX12_init 699 = .ok (.dup, 1) := by decide +kernel
theorem dX12_init_700 : decode cX12_init 700 = .ok (.bipush 106, 2) := by decide +kernel
theorem dX12_init_702 : decode cX12_init 702 = .ok (.bipush 32, 2) := by decide +kernel
theorem dX12_init_704 : decode cX12_init 704 = .ok (.iastore, 1) := by decide +kernel
theorem dX12_init_705 : decode cX12_init 705 = .ok (.dup, 1) := by decide +kernel
theorem dX12_init_706 : decode cX12_init 706 = .ok (.bipush 107, 2) := by decide +kernel
theorem dX12_init_708 : decode cX12_init 708 = .ok (.bipush 115, 2) := by decide +kernel
theorem dX12_init_710 : decode cX12_init 710 = .ok (.iastore, 1) := by decide +kernel
theorem dX12_init_711 : decode cX12_init 711 = .ok (.dup, 1) := by decide +kernel
theorem dX12_init_712 : decode cX12_init 712 = .ok (.bipush 108, 2) := by decide +kernel
theorem dX12_init_714 : decode cX12_init 714 = .ok (.bipush 117, 2) := by decide +kernel
theorem dX12_init_716 : decode cX12_init 716 = .ok (.iastore, 1) := by decide +kernel
theorem dX12_init_717 : decode cX12_init 717 = .ok (.dup, 1) := by decide +kernel
theorem dX12_init_718 : decode cX12_init 718 = .ok (.bipush 109, 2) := by decide +kernel
theorem dX12_init_720 : decode cX12_init 720 = .ok (.bipush 114, 2) := by decide +kernel
theorem dX12_init_722 : decode cX12_init 722 = .ok (.iastore, 1) := by decide +kernel
theorem dX12_init_723 : decode cX12_init 723 = .ok (.dup, 1) := by decide +kernel
theorem dX12_init_724 : decode cX12_init 724 = .ok (.bipush 110, 2) := by decide +kernel
theorem dX12_init_726 : decode cX12_init 726 = .ok (.bipush 101, 2) := by decide +kernel
theorem dX12_init_728 : decode cX12_init 728 = .ok (.iastore, 1) := by decide +kernel
theorem dX12_init_729 : decode cX12_init 729 = .ok (.dup, 1) := by decide +kernel
theorem dX12_init_730 : decode cX12_init 730 = .ok (.bipush 111, 2) := by decide +kernel
theorem dX12_init_732 : decode cX12_init 732 = .ok (.bipush 32, 2) := by decide +kernel
theorem dX12_init_734 : decode cX12_init 734 = .ok (.iastore, 1) := by decide +kernel
theorem dX12_init_735 : decode cX12_init 735 = .ok (.dup, 1) := by decide +kernel
theorem dX12_init_736 : decode cX12_init 736 = .ok (.bipush 112, 2) := by decide +kernel
theorem dX12_init_738 : decode cX12_init 738 = .ok (.bipush 100, 2) := by decide +kernel
theorem dX12_init_740 : decode cX12_init 740 = .ok (.iastore, 1) := by decide +kernel
theorem dX12_init_741 : decode cX12_init 741 = .ok (.dup, 1) := by decide +kernel
theorem dX12_init_742 : decode cX12_init 742 = .ok (.bipush 113, 2) := by decide +kernel
theorem dX12_init_744 : decode cX12_init 744 = .ok (.bipush 111, 2) := by decide +kernel
theorem dX12_init_746 : decode cX12_init 746 = .ok (.iastore, 1) := by decide +kernel
theorem dX12_init_747 : decode cX12_init 747 = .ok (.dup, 1) := by decide +kernel
theorem dX12_init_748 : decode cX12_init 748 = .ok (.bipush 114, 2) := by decide +kernel
theorem dX12_init_750 : decode cX12_init 750 = .ok (.bipush 117, 2) := by decide +kernel
theorem dX12_init_752 : decode cX12_init 752 = .ok (.iastore, 1) := by decide +kernel
theorem dX12_init_753 : decode cX12_init 753 = .ok (.dup, 1) := by decide +kernel
theorem dX12_init_754 : decode cX12_init 754 = .ok (.bipush 115, 2) := by decide +kernel
theorem dX12_init_756 : decode cX12_init 756 = .ok (.bipush 98, 2) := by decide +kernel
theorem dX12_init_758 : decode cX12_init 758 = .ok (.iastore, 1) := by decide +kernel
theorem dX12_init_759 : decode cX12_init 759 = .ok (.dup, 1) := by decide +kernel
theorem dX12_init_760 : decode cX12_init 760 = .ok (.bipush 116, 2) := by decide +kernel
theorem dX12_init_762 : decode cX12_init 762 = .ok (.bipush 116, 2) := by decide +kernel
theorem dX12_init_764 : decode cX12_init 764 = .ok (.iastore, 1) := by decide +kernel
theorem dX12_init_765 : decode cX12_init 765 = .ok (.dup, 1) := by decide +kernel
theorem dX12_init_766 : decode cX12_init 766 = .ok (.bipush 117, 2) := by decide +kernel
theorem dX12_init_768 : decode cX12_init 768 = .ok (.bipush 115, 2) := by decide +kernel
theorem dX12_init_770 : decode cX12_init 770 = .ok (.iastore, 1) := by decide +kernel
theorem dX12_init_771 : decode cX12_init 771 = .ok (.dup, 1) := by decide +kernel
theorem dX12_init_772 : decode cX12_init 772 = .ok (.bipush 118, 2) := by decide +kernel
theorem dX12_init_774 : decode cX12_init 774 = .ok (.bipush 32, 2) := by decide +kernel
theorem dX12_init_776 : decode cX12_init 776 = .ok (.iastore, 1) := by decide +kernel
theorem dX12_init_777 : decode cX12_init 777 = .ok (.dup, 1) := by decide +kernel
theorem dX12_init_778 : decode cX12_init 778 = .ok (.bipush 119, 2) := by decide +kernel
theorem dX12_init_780 : decode cX12_init 780 = .ok (.bipush 111, 2) := by decide +kernel
theorem dX12_init_782 : decode cX12_init 782 = .ok (.iastore, 1) := by decide +kernel
theorem dX12_init_783 : decode cX12_init 783 = .ok (.dup, 1) := by decide +kernel
theorem dX12_init_784 : decode cX12_init 784 = .ok (.bipush 120, 2) := by decide +kernel
theorem dX12_init_786 : decode cX12_init 786 = .ok (.bipush 110, 2) := by decide +kernel
theorem dX12_init_788 : decode cX12_init 788 = .ok (.iastore, 1) := by decide +kernel
theorem dX12_init_789 : decode cX12_init 789 = .ok (.dup, 1) := by decide +kernel
theorem dX12_init_790 : decode cX12_init 790 = .ok (.bipush 121, 2) := by decide +kernel
theorem dX12_init_792 : decode cX12_init 792 = .ok (.bipush 32, 2) := by decide +kernel
theorem dX12_init_794 : decode cX12_init 794 = .ok (.iastore, 1) := by decide +kernel
theorem dX12_init_795 : decode cX12_init 795 = .ok (.dup, 1) := by decide +kernel
theorem dX12_init_796 : decode cX12_init 796 = .ok (.bipush 122, 2) := by decide +kernel
theorem dX12_init_798 : decode cX12_init 798 = .ok (.bipush 112, 2) := by decide +kernel
theorem dX12_init_800 : decode cX12_init 800 = .ok (.iastore, 1) := by decide +kernel
theorem dX12_init_801 : decode cX12_init 801 = .ok (.dup, 1) := by decide +kernel
theorem dX12_init_802 : decode cX12_init 802 = .ok (.bipush 123, 2) := by decide +kernel
theorem dX12_init_804 : decode cX12_init 804 = .ok (.bipush 111, 2) := by decide +kernel
theorem dX12_init_806 : decode cX12_init 806 = .ok (.iastore, 1) := by decide +kernel
theorem dX12_init_807 : decode cX12_init 807 = .ok (.dup, 1) := by decide +kernel
theorem dX12_init_808 : decode cX12_init 808 = .ok (.bipush 124, 2) := by decide +kernel
theorem dX12_init_810 : decode cX12_init 810 = .ok (.bipush 116, 2) := by decide +kernel
theorem dX12_init_812 : decode cX12_init 812 = .ok (.iastore, 1) := by decide +kernel
theorem dX12_init_813 : decode cX12_init 813 = .ok (.dup, 1) := by decide +kernel
theorem dX12_init_814 : decode cX12_init 814 = .ok (.bipush 125, 2) := by decide +kernel
theorem dX12_init_816 : decode cX12_init 816 = .ok (.bipush 32, 2) := by decide +kernel
theorem dX12_init_818 : decode cX12_init 818 = .ok (.iastore, 1) := by decide +kernel
theorem dX12_init_819 : decode cX12_init 819 = .ok (.dup, 1) := by decide +kernel
theorem dX12_init_820 : decode cX12_init 820 = .ok (.bipush 126, 2) := by decide +kernel
theorem dX12_init_822 : decode cX12_init 822 = .ok (.bipush 111, 2) := by decide +kernel
theorem dX12_init_824 : decode cX12_init 824 = .ok (.iastore, 1) := by decide +kernel
theorem dX12_init_825 : decode cX12_init 825 = .ok (.dup, 1) := by decide +kernel
theorem dX12_init_826 : decode cX12_init 826 = .ok (.bipush 127, 2) := by decide +kernel
theorem dX12_init_828 : decode cX12_init 828 = .ok (.bipush 102, 2) := by decide +kernel
theorem dX12_init_830 : decode cX12_init 830 = .ok (.iastore, 1) := by decide +kernel
theorem dX12_init_831 : decode cX12_init 831 = .ok (.dup, 1) := by decide +kernel
theorem dX12_init_832 : decode cX12_init 832 = .ok (.sipush 128, 3) := by decide +kernel
theorem dX12_init_835 : decode cX12_init 835 = .ok (.bipush 32, 2) := by decide +kernel
theorem dX12_init_837 : decode cX12_init 837 = .ok (.iastore, 1) := by decide +kernel
theorem dX12_init_838 : decode cX12_init 838 = .ok (.dup, 1) := by decide +kernel
theorem dX12_init_839 : decode cX12_init 839 = .ok (.sipush 129, 3) := by decide +kernel
theorem dX12_init_842 : decode cX12_init 842 = .ok (.bipush 98, 2) := by decide +kernel
theorem dX12_init_844 : decode cX12_init 844 = .ok (.iastore, 1) := by decide +kernel
theorem dX12_init_845 : decode cX12_init 845 = .ok (.dup, 1) := by decide +kernel
theorem dX12_init_846 : decode cX12_init 846 = .ok (.sipush 130, 3) := by decide +kernel
theorem dX12_init_849 : decode cX12_init 849 = .ok (.bipush 121, 2) := by decide +kernel
theorem dX12_init_851 : decode cX12_init 851 = .ok (.iastore, 1) := by decide +kernel
theorem dX12_init_852 : decode cX12_init 852 = .ok (.dup, 1) := by decide +kernel
theorem dX12_init_853 : decode cX12_init 853 = .ok (.sipush 131, 3) := by decide +kernel
theorem dX12_init_856 : decode cX12_init 856 = .ok (.bipush 32, 2) := by decide +kernel
theorem dX12_init_858 : decode cX12_init 858 = .ok (.iastore, 1) := by decide +kernel
theorem dX12_init_859 : decode cX12_init 859 = .ok (.dup, 1) := by decide +kernel
theorem dX12_init_860 : decode cX12_init 860 = .ok (.sipush 132, 3) := by decide +kernel
theorem dX12_init_863 : decode cX12_init 863 = .ok (.bipush 119, 2) := by decide +kernel
theorem dX12_init_865 : decode cX12_init 865 = .ok (.iastore, 1) := by decide +kernel
theorem dX12_init_866 : decode cX12_init 866 = .ok (.dup, 1) := by decide +kernel
theorem dX12_init_867 : decode cX12_init 867 = .ok (.sipush 133, 3) := by decide +kernel
theorem dX12_init_870 : decode cX12_init 870 = .ok (.bipush 101, 2) := by decide +kernel
theorem dX12_init_872 : decode cX12_init 872 = .ok (.iastore, 1) := by decide +kernel
theorem dX12_init_873 : decode cX12_init 873 = .ok (.dup, 1) := by decide +kernel
theorem dX12_init_874 : decode cX12_init 874 = .ok (.sipush 134, 3) := by decide +kernel
theorem dX12_init_877 : decode cX12_init 877 = .ok (.bipush 101, 2) := by decide +kernel
theorem dX12_init_879 : decode cX12_init 879 = .ok (.iastore, 1) := by decide +kernel
theorem dX12_init_880 : decode cX12_init 880 = .ok (.dup, 1) := by decide +kernel
theorem dX12_init_881 : decode cX12_init 881 = .ok (.sipush 135, 3) := by decide +kernel
theorem dX12_init_884 : decode cX12_init 884 = .ok (.bipush 100, 2) := by decide +kernel
theorem dX12_init_886 : decode cX12_init 886 = .ok (.iastore, 1) := by decide +kernel
theorem dX12_init_887 : decode cX12_init 887 = .ok (.dup, 1) := by decide +kernel
theorem dX12_init_888 : decode cX12_init 888 = .ok (.sipush 136, 3) := by decide +kernel
theorem dX12_init_891 : decode cX12_init 891 = .ok (.bipush 32, 2) := by decide +kernel
theorem dX12_init_893 : decode cX12_init 893 = .ok (.iastore, 1) := by decide +kernel
theorem dX12_init_894 : decode cX12_init 894 = .ok (.dup, 1) := by decide +kernel
theorem dX12_init_895 : decode cX12_init 895 = .ok (.sipush 137, 3) := by decide +kernel
theorem dX12_init_898 : decode cX12_init 898 = .ok (.bipush 116, 2) := by decide +kernel
theorem dX12_init_900 : decode cX12_init 900 = .ok (.iastore, 1) := by decide +kernel
theorem dX12_init_901 : decode cX12_init 901 = .ok (.dup, 1) := by decide +kernel
theorem dX12_init_902 : decode cX12_init 902 = .ok (.sipush 138, 3) := by decide +kernel
theorem dX12_init_905 : decode cX12_init 905 = .ok (.bipush 101, 2) := by decide +kernel
theorem dX12_init_907 : decode cX12_init 907 = .ok (.iastore, 1) := by decide +kernel
theorem dX12_init_908 : decode cX12_init 908 = .ok (.dup, 1) := by decide +kernel
theorem dX12_init_909 : decode cX12_init 909 = .ok (.sipush 139, 3) := by decide +kernel
theorem dX12_init_912 : decode cX12_init 912 = .ok (.bipush 108, 2) := by decide +kernel
theorem dX12_init_914 : decode cX12_init 914 = .ok (.iastore, 1) := by decide +kernel
theorem dX12_init_915 : decode cX12_init 915 = .ok (.dup, 1) := by decide +kernel
theorem dX12_init_916 : decode cX12_init 916 = .ok (.sipush 140, 3) := by decide +kernel
theorem dX12_init_919 : decode cX12_init 919 = .ok (.bipush 108, 2) := by decide +kernel
theorem dX12_init_921 : decode cX12_init 921 = .ok (.iastore, 1) := by decide +kernel
theorem dX12_init_922 : decode cX12_init 922 = .ok (.dup, 1) := by decide +kernel
theorem dX12_init_923 : decode cX12_init 923 = .ok (.sipush 141, 3) := by decide +kernel
theorem dX12_init_926 : decode cX12_init 926 = .ok (.bipush 32, 2) := by decide +kernel
theorem dX12_init_928 : decode cX12_init 928 = .ok (.iastore, 1) := by decide +kernel
theorem dX12_init_929 : decode cX12_init 929 = .ok (.dup, 1) := by decide +kernel
theorem dX12_init_930 : decode cX12_init 930 = .ok (.sipush 142, 3) := by decide +kernel
theorem dX12_init_933 : decode cX12_init 933 = .ok (.bipush 116, 2) := by decide +kernel
theorem dX12_init_935 : decode cX12_init 935 = .ok (.iastore, 1) := by decide +kernel
theorem dX12_init_936 : decode cX12_init 936 = .ok (.dup, 1) := by decide +kernel
theorem dX12_init_937 : decode cX12_init 937 = .ok (.sipush 143, 3) := by decide +kernel
theorem dX12_init_940 : decode cX12_init 940 = .ok (.bipush 111, 2) := by decide +kernel
theorem dX12_init_942 : decode cX12_init 942 = .ok (.iastore, 1) := by decide +kernel
theorem dX12_init_943 : decode cX12_init 943 = .ok (.dup, 1) := by decide +kernel
theorem dX12_init_944 : decode cX12_init 944 = .ok (.sipush 144, 3) := by decide +kernel
theorem dX12_init_947 : decode cX12_init 947 = .ok (.bipush 32, 2) := by decide +kernel
theorem dX12_init_949 : decode cX12_init 949 = .ok (.iastore, 1) := by decide +kernel
theorem dX12_init_950 : decode cX12_init 950 = .ok (.putfield 31, 3) := by decide +kernel
theorem dX12_init_953 : decode cX12_init 953 = .ok (.aload_n 0, 1) := by decide +kernel
theorem dX12_init_954 : decode cX12_init 954 = .ok (.iconst 2, 1) := by decide +kernel
theorem dX12_init_955 : decode cX12_init 955 = .ok (.newarray .int, 2) := by decide +kernel
theorem dX12_init_957 : decode cX12_init 957 = .ok (.putfield 34, 3) := by decide +kernel
theorem dX12_init_960 : decode cX12_init 960 = .ok (.aload_n 0, 1) := by decide +kernel
theorem dX12_init_961 : decode cX12_init 961 = .ok (.bipush 48, 2) := by decide +kernel
theorem dX12_init_963 : decode cX12_init 963 = .ok (.newarray .int, 2) := by decide +kernel
theorem dX12_init_965 : decode cX12_init 965 = .ok (.putfield 37, 3) := by decide +kernel
theorem dX12_init_968 : decode cX12_init 968 = .ok (.aload_n 0, 1) := by decide +kernel
theorem dX12_init_969 : decode cX12_init 969 = .ok (.bipush 48, 2) := by decide +kernel
theorem dX12_init_971 : decode cX12_init 971 = .ok (.newarray .int, 2) := by decide +kernel
theorem dX12_init_973 : decode cX12_init 973 = .ok (.putfield 40, 3) := by decide +kernel
theorem dX12_init_976 : decode cX12_init 976 = .ok (.aload_n 0, 1) := by decide +kernel
theorem dX12_init_977 : decode cX12_init 977 = .ok (.bipush 48, 2) := by decide +kernel
theorem dX12_init_979 : decode cX12_init 979 = .ok (.newarray .int, 2) := by decide +kernel
theorem dX12_init_981 : decode cX12_init 981 = .ok (.putfield 43, 3) := by decide +kernel
theorem dX12_init_984 : decode cX12_init 984 = .ok (.aload_n 0, 1) := by decide +kernel
theorem dX12_init_985 : decode cX12_init 985 = .ok (.bipush 48, 2) := by decide +kernel
theorem dX12_init_987 : decode cX12_init 987 = .ok (.newarray .int, 2) := by decide +kernel
theorem dX12_init_989 : decode cX12_init 989 = .ok (.putfield 46, 3) := by decide +kernel
theorem dX12_init_992 : decode cX12_init 992 = .ok (.aload_n 0, 1) := by decide +kernel
theorem dX12_init_993 : decode cX12_init 993 = .ok (.sipush 1200, 3) := by decide +kernel
theorem dX12_init_996 : decode cX12_init 996 = .ok (.newarray .int, 2) := by decide +kernel
theorem dX12_init_998 : decode cX12_init 998 = .ok (.putfield 49, 3) := by decide +kernel
theorem dX12_init_1001 : decode cX12_init 1001 = .ok (.aload_n 0, 1) := by decide +kernel
theorem dX12_init_1002 : decode cX12_init 1002 = .ok (.sipush 1200, 3) := by decide +kernel
theorem dX12_init_1005 : decode cX12_init 1005 = .ok (.newarray .int, 2) := by decide +kernel
theorem dX12_init_1007 : decode cX12_init 1007 = .ok (.putfield 52, 3) := by decide +kernel
theorem dX12_init_1010 : decode cX12_init 1010 = .ok (.aload_n 0, 1) := by decide +kernel
theorem dX12_init_1011 : decode cX12_init 1011 = .ok (.bipush 40, 2) := by decide +kernel
theorem dX12_init_1013 : decode cX12_init 1013 = .ok (.newarray .int, 2) := by decide +kernel
theorem dX12_init_1015 : decode cX12_init 1015 = .ok (.putfield 55, 3) := by decide +kernel
theorem dX12_init_1018 : decode cX12_init 1018 = .ok (.aload_n 0, 1) := by decide +kernel
theorem dX12_init_1019 : decode cX12_init 1019 = .ok (.iconst (-1), 1) := by decide +kernel
theorem dX12_init_1020 : decode cX12_init 1020 = .ok (.putfield 58, 3) := by decide +kernel
theorem dX12_init_1023 : decode cX12_init 1023 = .ok (.aload_n 0, 1) := by decide +kernel
theorem dX12_init_1024 : decode cX12_init 1024 = .ok (.bipush 96, 2) := by decide +kernel
theorem dX12_init_1026 : decode cX12_init 1026 = .ok (.newarray .int, 2) := by decide +kernel
theorem dX12_init_1028 : decode cX12_init 1028 = .ok (.putfield 62, 3) := by decide +kernel
theorem dX12_init_1031 : decode cX12_init 1031 = .ok (.aload_n 0, 1) := by decide +kernel
theorem dX12_init_1032 : decode cX12_init 1032 = .ok (.bipush 72, 2) := by decide +kernel
theorem dX12_init_1034 : decode cX12_init 1034 = .ok (.newarray .int, 2) := by decide +kernel
theorem dX12_init_1036 : decode cX12_init 1036 = .ok (.putfield 65, 3) := by decide +kernel
theorem dX12_init_1039 : decode cX12_init 1039 = .ok (.aload_n 0, 1) := by decide +kernel
theorem dX12_init_1040 : decode cX12_init 1040 = .ok (.sipush 160, 3) := by decide +kernel
theorem dX12_init_1043 : decode cX12_init 1043 = .ok (.newarray .int, 2) := by decide +kernel
theorem dX12_init_1045 : decode cX12_init 1045 = .ok (.putfield 68, 3) := by decide +kernel
theorem dX12_init_1048 : decode cX12_init 1048 = .ok (.aload_n 0, 1) := by decide +kernel
theorem dX12_init_1049 : decode cX12_init 1049 = .ok (.bipush 8, 2) := by decide +kernel
theorem dX12_init_1051 : decode cX12_init 1051 = .ok (.newarray .int, 2) := by decide +kernel
theorem dX12_init_1053 : decode cX12_init 1053 = .ok (.putfield 71, 3) := by decide +kernel
theorem dX12_init_1056 : decode cX12_init 1056 = .ok (.aload_n 0, 1) := by decide +kernel
theorem dX12_init_1057 : decode cX12_init 1057 = .ok (.sipush 420, 3) := by decide +kernel
theorem dX12_init_1060 : decode cX12_init 1060 = .ok (.newarray .int, 2) := by decide +kernel
theorem dX12_init_1062 : decode cX12_init 1062 = .ok (.putfield 74, 3) := by decide +kernel
theorem dX12_init_1065 : decode cX12_init 1065 = .ok (.aload_n 0, 1) := by decide +kernel
theorem dX12_init_1066 : decode cX12_init 1066 = .ok (.bipush 8, 2) := by decide +kernel
theorem dX12_init_1068 : decode cX12_init 1068 = .ok (.newarray .int, 2) := by decide +kernel
theorem dX12_init_1070 : decode cX12_init 1070 = .ok (.putfield 77, 3) := by decide +kernel
theorem dX12_init_1073 : decode cX12_init 1073 = .ok (.aload_n 0, 1) := by decide +kernel
theorem dX12_init_1074 : decode cX12_init 1074 = .ok (.bipush 8, 2) := by decide +kernel
theorem dX12_init_1076 : decode cX12_init 1076 = .ok (.newarray .int, 2) := by decide +kernel
theorem dX12_init_1078 : decode cX12_init 1078 = .ok (.putfield 80, 3) := by decide +kernel
theorem dX12_init_1081 : decode cX12_init 1081 = .ok (.aload_n 0, 1) := by decide +kernel
theorem dX12_init_1082 : decode cX12_init 1082 = .ok (.bipush 8, 2) := by decide +kernel
theorem dX12_init_1084 : decode cX12_init 1084 = .ok (.newarray .int, 2) := by decide +kernel
theorem dX12_init_1086 : decode cX12_init 1086 = .ok (.putfield 83, 3) := by decide +kernel
theorem dX12_init_1089 : decode cX12_init 1089 = .ok (.aload_n 0, 1) := by decide +kernel
theorem dX12_init_1090 : decode cX12_init 1090 = .ok (.bipush 8, 2) := by decide +kernel
theorem dX12_init_1092 : decode cX12_init 1092 = .ok (.newarray .int, 2) := by decide +kernel
theorem dX12_init_1094 : decode cX12_init 1094 = .ok (.putfield 86, 3) := by decide +kernel
theorem dX12_init_1097 : decode cX12_init 1097 = .ok (.aload_n 0, 1) := by decide +kernel
theorem dX12_init_1098 : decode cX12_init 1098 = .ok (.bipush 8, 2) := by decide +kernel
theorem dX12_init_1100 : decode cX12_init 1100 = .ok (.newarray .int, 2) := by decide +kernel
theorem dX12_init_1102 : decode cX12_init 1102 = .ok (.putfield 89, 3) := by decide +kernel
theorem dX12_init_1105 : decode cX12_init 1105 = .ok (.aload_n 0, 1) := by decide +kernel
theorem dX12_init_1106 : decode cX12_init 1106 = .ok (.bipush 8, 2) := by decide +kernel
theorem dX12_init_1108 : decode cX12_init 1108 = .ok (.newarray .int, 2) := by decide +kernel
theorem dX12_init_1110 : decode cX12_init 1110 = .ok (.putfield 92, 3) := by decide +kernel
theorem dX12_init_1113 : decode cX12_init 1113 = .ok (.aload_n 0, 1) := by decide +kernel
theorem dX12_init_1114 : decode cX12_init 1114 = .ok (.bipush 8, 2) := by decide +kernel
theorem dX12_init_1116 : decode cX12_init 1116 = .ok (.newarray .int, 2) := by decide +kernel
theorem dX12_init_1118 : decode cX12_init 1118 = .ok (.putfield 95, 3) := by decide +kernel
theorem dX12_init_1121 : decode cX12_init 1121 = .ok (.aload_n 0, 1) := by decide +kernel
theorem dX12_init_1122 : decode cX12_init 1122 = .ok (.bipush 12, 2) := by decide +kernel
theorem dX12_init_1124 : decode cX12_init 1124 = .ok (.newarray .int, 2) := by decide +kernel
theorem dX12_init_1126 : decode cX12_init 1126 = .ok (.putfield 98, 3) := by decide +kernel
theorem dX12_init_1129 : decode cX12_init 1129 = .ok (.aload_n 0, 1) := by decide +kernel
theorem dX12_init_1130 : decode cX12_init 1130 = .ok (.bipush 12, 2) := by decide +kernel
theorem dX12_init_1132 : decode cX12_init 1132 = .ok (.newarray .int, 2) := by decide +kernel
theorem dX12_init_1134 : decode cX12_init 1134 = .ok (.putfield 101, 3) := by decide +kernel
theorem dX12_init_1137 : decode cX12_init 1137 = .ok (.aload_n 0, 1) := by decide +kernel
theorem dX12_init_1138 : decode cX12_init 1138 = .ok (.bipush 12, 2) := by decide +kernel
theorem dX12_init_1140 : decode cX12_init 1140 = .ok (.newarray .int, 2) := by decide +kernel
theorem dX12_init_1142 : decode cX12_init 1142 = .ok (.putfield 104, 3) := by decide +kernel
theorem dX12_init_1145 : decode cX12_init 1145 = .ok (.aload_n 0, 1) := by decide +kernel
theorem dX12_init_1146 : decode cX12_init 1146 = .ok (.sipush 256, 3) := by decide +kernel
theorem dX12_init_1149 : decode cX12_init 1149 = .ok (.newarray .int, 2) := by decide +kernel
theorem dX12_init_1151 : decode cX12_init 1151 = .ok (.putfield 107, 3) := by decide +kernel
theorem dX12_init_1154 : decode cX12_init 1154 = .ok (.aload_n 0, 1) := by decide +kernel
theorem dX12_init_1155 : decode cX12_init 1155 = .ok (.sipush 2000, 3) := by decide +kernel
theorem dX12_init_1158 : decode cX12_init 1158 = .ok (.newarray .int, 2) := by decide +kernel
theorem dX12_init_1160 : decode cX12_init 1160 = .ok (.putfield 110, 3) := by decide +kernel
theorem dX12_init_1163 : decode cX12_init 1163 = .ok (.return_, 1) := by decide +kernel
