/-! ===== the static world: which cell is which object, printed by wip/whole/gen2.py ===== -/
def w_cil : List Nat := [0, 14, 3, 10, 0, 10, 0, 10, 0, 7, 6, 10, 0, 5, 10, 0, 0, 9, 10, 0, 10, 0, 10, 0, 8, 10, 0, 10, 0, 10, 0, 10, 0, 4, 10, 0, 13, 10, 0, 10, 0, 11, 10, 0, 10, 0, 10, 0, 10, 0, 12, 10, 0, 10, 0, 8, 10, 0, 10, 0, 10, 0, 10, 0, 8, 10, 0, 10, 0, 10, 0, 10, 0, 15, 0, 0, 0, 0, 0, 0, 0, 0, 0, 0, 0, 0, 0, 0, 0, 0, 0, 0, 0, 0, 0, 0, 0, 0, 0, 0, 0, 0, 0, 0, 0, 0, 0, 0, 0, 0, 0, 0, 0, 0, 0, 0, 0, 0, 0, 0, 0, 0, 0, 0, 0, 0, 0, 0]
def w_ci (a : Nat) : Nat := w_cil.getD a 0
def w_akl : List Nat := [0, 0, 0, 0, 0, 0, 0, 0, 0, 0, 0, 0, 0, 0, 0, 0, 0, 0, 0, 0, 0, 0, 0, 0, 0, 0, 0, 0, 0, 0, 0, 0, 0, 0, 0, 0, 0, 0, 0, 0, 0, 0, 0, 0, 0, 0, 0, 0, 0, 0, 0, 0, 0, 0, 0, 0, 0, 0, 0, 0, 0, 0, 0, 0, 0, 0, 0, 0, 0, 0, 0, 0, 0, 0, 1, 1, 1, 1, 1, 1, 1, 1, 1, 1, 1, 1, 1, 1, 1, 1, 1, 1, 1, 1, 1, 1, 2, 1, 1, 1, 1, 1, 1, 1, 1, 1, 2, 1, 1, 1, 1, 1, 1, 1, 1, 1, 1, 1, 1, 1, 3, 1, 1, 1, 1, 1, 1, 3]
def w_ak (a : Nat) : Nat := w_akl.getD a 0
def w_all : List Nat := [0, 0, 0, 0, 0, 0, 0, 0, 0, 0, 0, 0, 0, 0, 0, 0, 0, 0, 0, 0, 0, 0, 0, 0, 0, 0, 0, 0, 0, 0, 0, 0, 0, 0, 0, 0, 0, 0, 0, 0, 0, 0, 0, 0, 0, 0, 0, 0, 0, 0, 0, 0, 0, 0, 0, 0, 0, 0, 0, 0, 0, 0, 0, 0, 0, 0, 0, 0, 0, 0, 0, 0, 0, 0, 180, 180, 3, 1024, 1024, 1024, 1024, 3072, 1024, 1024, 20480, 2048, 2048, 2048, 2048, 2048, 2048, 2048, 8192, 8192, 8192, 8192, 8192, 24576, 8192, 8192, 3, 3, 60, 3, 42, 42, 10, 16384, 16384, 16384, 16384, 8192, 16, 1200, 60, 60, 60, 600, 60, 60, 60, 2700, 10, 1200, 60, 42, 10, 1]
def w_al (a : Nat) : Nat := w_all.getD a 0
def w_ptl : List (List Nat) := [[], [2, 9, 55, 64, 0], [3, 5, 7], [4], [], [6], [], [8], [], [10, 13, 17, 33, 41, 50], [11, 0], [12], [], [14, 16, 0, 0], [15], [], [], [18, 20, 22, 0, 0, 0, 0, 24], [19], [], [21], [], [23], [], [25, 27, 29, 31, 0, 0, 0, 0, 0, 0], [26], [], [28], [], [30], [], [32], [], [34, 0], [35], [], [2, 17, 37, 39, 0, 0, 0], [38], [], [40], [], [2, 36, 13, 10, 17, 33, 42, 44, 46, 48, 0, 0, 0, 0, 0, 0, 0, 0], [43], [], [45], [], [47], [], [49], [], [13, 17, 33, 41, 36, 51, 53, 0, 0, 0, 0, 0, 0, 0, 0, 0, 0], [52], [], [54], [], [56, 58, 60, 62, 0, 0, 0, 0, 0, 0], [57], [], [59], [], [61], [], [63], [], [65, 67, 69, 71, 0, 0, 0, 0, 0, 0], [66], [], [68], [], [70], [], [72], [], [74, 75, 76, 0, 0, 0, 77, 78, 79, 80, 81, 82, 83, 0, 0, 0, 84, 0, 85, 86, 87, 0, 88, 89, 90, 91, 0, 92, 93, 94, 95, 96, 97, 0, 98, 0, 99, 100, 101, 0, 0, 0, 102, 0, 0, 0, 0, 0, 103, 104, 105, 106, 0, 107, 108, 109, 110, 0, 0, 0, 111, 0, 0, 112, 0, 0, 0, 0, 0, 113, 0, 114, 115, 116, 117, 118, 119, 120, 121, 0, 0, 0, 122, 0, 0, 0, 0, 0, 123, 0, 124, 125, 126, 0], [], [], [], [], [], [], [], [], [], [], [], [], [], [], [], [], [], [], [], [], [], [], [], [], [], [], [], [], [], [], [], [], [], [], [], [], [], [], [], [], [], [], [], [], [], [], [], [], [], [], [], [], [], []]
def w_pt (a j : Nat) : Nat := (w_ptl.getD a []).getD j 0
def w_keys : List Nat := [3, 5, 7, 11, 14, 18, 20, 22, 25, 27, 29, 31, 34, 37, 39, 42, 44, 46, 48, 51, 53, 56, 58, 60, 62, 65, 67, 69, 71, 13]
def w_bdl : List Nat := [0, 0, 0, 180, 0, 180, 0, 64, 0, 0, 0, 3700, 0, 1048576, 262144, 0, 0, 0, 64, 0, 64, 0, 20000, 0, 0, 1210, 0, 64, 0, 64, 0, 64, 0, 0, 320000, 0, 0, 1700, 0, 1200, 0, 0, 24000, 0, 64, 0, 64, 0, 64, 0, 0, 30000, 0, 64, 0, 0, 1210, 0, 64, 0, 64, 0, 64, 0, 0, 1210, 0, 64, 0, 64, 0, 64, 0, 0, 0, 0, 0, 0, 0, 0, 0, 0, 0, 0, 0, 0, 0, 0, 0, 0, 0, 0, 0, 0, 0, 0, 0, 0, 0, 0, 0, 0, 0, 0, 0, 0, 0, 0, 0, 0, 0, 0, 0, 0, 0, 0, 0, 0, 0, 0, 0, 0, 0, 0, 0, 0, 0, 0]
/-- the rows that grow: places that may be set are below this -/
def w_bd (a : Nat) : Nat := w_bdl.getD a 0
def w_p0l : List Nat := [0, 0, 0, 4, 0, 6, 0, 8, 0, 0, 0, 12, 0, 16, 15, 0, 0, 0, 19, 0, 21, 0, 23, 0, 0, 26, 0, 28, 0, 30, 0, 32, 0, 0, 35, 0, 0, 38, 0, 40, 0, 0, 43, 0, 45, 0, 47, 0, 49, 0, 0, 52, 0, 54, 0, 0, 57, 0, 59, 0, 61, 0, 63, 0, 0, 66, 0, 68, 0, 70, 0, 72, 0, 0, 0, 0, 0, 0, 0, 0, 0, 0, 0, 0, 0, 0, 0, 0, 0, 0, 0, 0, 0, 0, 0, 0, 0, 0, 0, 0, 0, 0, 0, 0, 0, 0, 0, 0, 0, 0, 0, 0, 0, 0, 0, 0, 0, 0, 0, 0, 0, 0, 0, 0, 0, 0, 0, 0]
def w_p0 (a : Nat) : Nat := w_p0l.getD a 0
theorem wci_1 : w_ci 1 = 14 := rfl
theorem wci_2 : w_ci 2 = 3 := rfl
theorem wci_3 : w_ci 3 = 10 := rfl
theorem wci_5 : w_ci 5 = 10 := rfl
theorem wci_7 : w_ci 7 = 10 := rfl
theorem wci_9 : w_ci 9 = 7 := rfl
theorem wci_10 : w_ci 10 = 6 := rfl
theorem wci_11 : w_ci 11 = 10 := rfl
theorem wci_13 : w_ci 13 = 5 := rfl
theorem wci_14 : w_ci 14 = 10 := rfl
theorem wci_17 : w_ci 17 = 9 := rfl
theorem wci_18 : w_ci 18 = 10 := rfl
theorem wci_20 : w_ci 20 = 10 := rfl
theorem wci_22 : w_ci 22 = 10 := rfl
theorem wci_24 : w_ci 24 = 8 := rfl
theorem wci_25 : w_ci 25 = 10 := rfl
theorem wci_27 : w_ci 27 = 10 := rfl
theorem wci_29 : w_ci 29 = 10 := rfl
theorem wci_31 : w_ci 31 = 10 := rfl
theorem wci_33 : w_ci 33 = 4 := rfl
theorem wci_34 : w_ci 34 = 10 := rfl
theorem wci_36 : w_ci 36 = 13 := rfl
theorem wci_37 : w_ci 37 = 10 := rfl
theorem wci_39 : w_ci 39 = 10 := rfl
theorem wci_41 : w_ci 41 = 11 := rfl
theorem wci_42 : w_ci 42 = 10 := rfl
theorem wci_44 : w_ci 44 = 10 := rfl
theorem wci_46 : w_ci 46 = 10 := rfl
theorem wci_48 : w_ci 48 = 10 := rfl
theorem wci_50 : w_ci 50 = 12 := rfl
theorem wci_51 : w_ci 51 = 10 := rfl
theorem wci_53 : w_ci 53 = 10 := rfl
theorem wci_55 : w_ci 55 = 8 := rfl
theorem wci_56 : w_ci 56 = 10 := rfl
theorem wci_58 : w_ci 58 = 10 := rfl
theorem wci_60 : w_ci 60 = 10 := rfl
theorem wci_62 : w_ci 62 = 10 := rfl
theorem wci_64 : w_ci 64 = 8 := rfl
theorem wci_65 : w_ci 65 = 10 := rfl
theorem wci_67 : w_ci 67 = 10 := rfl
theorem wci_69 : w_ci 69 = 10 := rfl
theorem wci_71 : w_ci 71 = 10 := rfl
theorem wci_73 : w_ci 73 = 15 := rfl
theorem wak_74 : w_ak 74 = 1 := rfl
theorem wal_74 : w_al 74 = 180 := rfl
theorem wak_75 : w_ak 75 = 1 := rfl
theorem wal_75 : w_al 75 = 180 := rfl
theorem wak_76 : w_ak 76 = 1 := rfl
theorem wal_76 : w_al 76 = 3 := rfl
theorem wak_77 : w_ak 77 = 1 := rfl
theorem wal_77 : w_al 77 = 1024 := rfl
theorem wak_78 : w_ak 78 = 1 := rfl
theorem wal_78 : w_al 78 = 1024 := rfl
theorem wak_79 : w_ak 79 = 1 := rfl
theorem wal_79 : w_al 79 = 1024 := rfl
theorem wak_80 : w_ak 80 = 1 := rfl
theorem wal_80 : w_al 80 = 1024 := rfl
theorem wak_81 : w_ak 81 = 1 := rfl
theorem wal_81 : w_al 81 = 3072 := rfl
theorem wak_82 : w_ak 82 = 1 := rfl
theorem wal_82 : w_al 82 = 1024 := rfl
theorem wak_83 : w_ak 83 = 1 := rfl
theorem wal_83 : w_al 83 = 1024 := rfl
theorem wak_84 : w_ak 84 = 1 := rfl
theorem wal_84 : w_al 84 = 20480 := rfl
theorem wak_85 : w_ak 85 = 1 := rfl
theorem wal_85 : w_al 85 = 2048 := rfl
theorem wak_86 : w_ak 86 = 1 := rfl
theorem wal_86 : w_al 86 = 2048 := rfl
theorem wak_87 : w_ak 87 = 1 := rfl
theorem wal_87 : w_al 87 = 2048 := rfl
theorem wak_88 : w_ak 88 = 1 := rfl
theorem wal_88 : w_al 88 = 2048 := rfl
theorem wak_89 : w_ak 89 = 1 := rfl
theorem wal_89 : w_al 89 = 2048 := rfl
theorem wak_90 : w_ak 90 = 1 := rfl
theorem wal_90 : w_al 90 = 2048 := rfl
theorem wak_91 : w_ak 91 = 1 := rfl
theorem wal_91 : w_al 91 = 2048 := rfl
theorem wak_92 : w_ak 92 = 1 := rfl
theorem wal_92 : w_al 92 = 8192 := rfl
theorem wak_93 : w_ak 93 = 1 := rfl
theorem wal_93 : w_al 93 = 8192 := rfl
theorem wak_94 : w_ak 94 = 1 := rfl
theorem wal_94 : w_al 94 = 8192 := rfl
theorem wak_95 : w_ak 95 = 1 := rfl
theorem wal_95 : w_al 95 = 8192 := rfl
theorem wak_96 : w_ak 96 = 2 := rfl
theorem wal_96 : w_al 96 = 8192 := rfl
theorem wak_97 : w_ak 97 = 1 := rfl
theorem wal_97 : w_al 97 = 24576 := rfl
theorem wak_98 : w_ak 98 = 1 := rfl
theorem wal_98 : w_al 98 = 8192 := rfl
theorem wak_99 : w_ak 99 = 1 := rfl
theorem wal_99 : w_al 99 = 8192 := rfl
theorem wak_100 : w_ak 100 = 1 := rfl
theorem wal_100 : w_al 100 = 3 := rfl
theorem wak_101 : w_ak 101 = 1 := rfl
theorem wal_101 : w_al 101 = 3 := rfl
theorem wak_102 : w_ak 102 = 1 := rfl
theorem wal_102 : w_al 102 = 60 := rfl
theorem wak_103 : w_ak 103 = 1 := rfl
theorem wal_103 : w_al 103 = 3 := rfl
theorem wak_104 : w_ak 104 = 1 := rfl
theorem wal_104 : w_al 104 = 42 := rfl
theorem wak_105 : w_ak 105 = 1 := rfl
theorem wal_105 : w_al 105 = 42 := rfl
theorem wak_106 : w_ak 106 = 2 := rfl
theorem wal_106 : w_al 106 = 10 := rfl
theorem wak_107 : w_ak 107 = 1 := rfl
theorem wal_107 : w_al 107 = 16384 := rfl
theorem wak_108 : w_ak 108 = 1 := rfl
theorem wal_108 : w_al 108 = 16384 := rfl
theorem wak_109 : w_ak 109 = 1 := rfl
theorem wal_109 : w_al 109 = 16384 := rfl
theorem wak_110 : w_ak 110 = 1 := rfl
theorem wal_110 : w_al 110 = 16384 := rfl
theorem wak_111 : w_ak 111 = 1 := rfl
theorem wal_111 : w_al 111 = 8192 := rfl
theorem wak_112 : w_ak 112 = 1 := rfl
theorem wal_112 : w_al 112 = 16 := rfl
theorem wak_113 : w_ak 113 = 1 := rfl
theorem wal_113 : w_al 113 = 1200 := rfl
theorem wak_114 : w_ak 114 = 1 := rfl
theorem wal_114 : w_al 114 = 60 := rfl
theorem wak_115 : w_ak 115 = 1 := rfl
theorem wal_115 : w_al 115 = 60 := rfl
theorem wak_116 : w_ak 116 = 1 := rfl
theorem wal_116 : w_al 116 = 60 := rfl
theorem wak_117 : w_ak 117 = 1 := rfl
theorem wal_117 : w_al 117 = 600 := rfl
theorem wak_118 : w_ak 118 = 1 := rfl
theorem wal_118 : w_al 118 = 60 := rfl
theorem wak_119 : w_ak 119 = 1 := rfl
theorem wal_119 : w_al 119 = 60 := rfl
theorem wak_120 : w_ak 120 = 3 := rfl
theorem wal_120 : w_al 120 = 60 := rfl
theorem wak_121 : w_ak 121 = 1 := rfl
theorem wal_121 : w_al 121 = 2700 := rfl
theorem wak_122 : w_ak 122 = 1 := rfl
theorem wal_122 : w_al 122 = 10 := rfl
theorem wak_123 : w_ak 123 = 1 := rfl
theorem wal_123 : w_al 123 = 1200 := rfl
theorem wak_124 : w_ak 124 = 1 := rfl
theorem wal_124 : w_al 124 = 60 := rfl
theorem wak_125 : w_ak 125 = 1 := rfl
theorem wal_125 : w_al 125 = 42 := rfl
theorem wak_126 : w_ak 126 = 1 := rfl
theorem wal_126 : w_al 126 = 10 := rfl
theorem wak_127 : w_ak 127 = 3 := rfl
theorem wal_127 : w_al 127 = 1 := rfl
theorem wbd_3 : w_bd 3 = 180 := rfl
theorem wbd_5 : w_bd 5 = 180 := rfl
theorem wbd_7 : w_bd 7 = 64 := rfl
theorem wbd_11 : w_bd 11 = 3700 := rfl
theorem wbd_14 : w_bd 14 = 262144 := rfl
theorem wbd_18 : w_bd 18 = 64 := rfl
theorem wbd_20 : w_bd 20 = 64 := rfl
theorem wbd_22 : w_bd 22 = 20000 := rfl
theorem wbd_25 : w_bd 25 = 1210 := rfl
theorem wbd_27 : w_bd 27 = 64 := rfl
theorem wbd_29 : w_bd 29 = 64 := rfl
theorem wbd_31 : w_bd 31 = 64 := rfl
theorem wbd_34 : w_bd 34 = 320000 := rfl
theorem wbd_37 : w_bd 37 = 1700 := rfl
theorem wbd_39 : w_bd 39 = 1200 := rfl
theorem wbd_42 : w_bd 42 = 24000 := rfl
theorem wbd_44 : w_bd 44 = 64 := rfl
theorem wbd_46 : w_bd 46 = 64 := rfl
theorem wbd_48 : w_bd 48 = 64 := rfl
theorem wbd_51 : w_bd 51 = 30000 := rfl
theorem wbd_53 : w_bd 53 = 64 := rfl
theorem wbd_56 : w_bd 56 = 1210 := rfl
theorem wbd_58 : w_bd 58 = 64 := rfl
theorem wbd_60 : w_bd 60 = 64 := rfl
theorem wbd_62 : w_bd 62 = 64 := rfl
theorem wbd_65 : w_bd 65 = 1210 := rfl
theorem wbd_67 : w_bd 67 = 64 := rfl
theorem wbd_69 : w_bd 69 = 64 := rfl
theorem wbd_71 : w_bd 71 = 64 := rfl
theorem wbd_13 : w_bd 13 = 1048576 := rfl
/-- the world: numbers in the fields of objects; the contents of arrays (a row that grows stands under its object) -/
abbrev W_ : Type := (Nat → Nat → Int) × (Nat → Nat → Int)
def w_pv (w : W_) (a j : Nat) : Nat := if a = 17 ∧ j = 7 then (w.1 17 7).toNat else w_pt a j
def w_gv (w : W_) (a j : Nat) : am_V := match am_tk (w_ci a) j with
  | 0 => .inl (w.1 a j)
  | 1 => .inl (w.1 a j)
  | 2 => .inr (.inl (w.1 a j))
  | _ => .inr (.inr (.inl (w_pv w a j)))
/-- the field that holds the array of a row that grows -/
def w_g1 (a j : Nat) : Bool := (w_ci a == 10 && j == 0) || (a == 13 && j == 1)
theorem wgv_1_0 (w : W_) : w_gv w 1 0 = .inr (.inr (.inl 2)) := rfl
theorem wgv_1_1 (w : W_) : w_gv w 1 1 = .inr (.inr (.inl 9)) := rfl
theorem wgv_1_2 (w : W_) : w_gv w 1 2 = .inr (.inr (.inl 55)) := rfl
theorem wgv_1_3 (w : W_) : w_gv w 1 3 = .inr (.inr (.inl 64)) := rfl
theorem wgv_1_4 (w : W_) : w_gv w 1 4 = .inl (w.1 1 4) := rfl
theorem wgv_2_0 (w : W_) : w_gv w 2 0 = .inr (.inr (.inl 3)) := rfl
theorem wgv_2_1 (w : W_) : w_gv w 2 1 = .inr (.inr (.inl 5)) := rfl
theorem wgv_2_2 (w : W_) : w_gv w 2 2 = .inr (.inr (.inl 7)) := rfl
theorem wgv_9_0 (w : W_) : w_gv w 9 0 = .inr (.inr (.inl 10)) := rfl
theorem wgv_9_1 (w : W_) : w_gv w 9 1 = .inr (.inr (.inl 13)) := rfl
theorem wgv_9_2 (w : W_) : w_gv w 9 2 = .inr (.inr (.inl 17)) := rfl
theorem wgv_9_3 (w : W_) : w_gv w 9 3 = .inr (.inr (.inl 33)) := rfl
theorem wgv_9_4 (w : W_) : w_gv w 9 4 = .inr (.inr (.inl 41)) := rfl
theorem wgv_9_5 (w : W_) : w_gv w 9 5 = .inr (.inr (.inl 50)) := rfl
theorem wgv_10_0 (w : W_) : w_gv w 10 0 = .inr (.inr (.inl 11)) := rfl
theorem wgv_10_1 (w : W_) : w_gv w 10 1 = .inl (w.1 10 1) := rfl
theorem wgv_13_0 (w : W_) : w_gv w 13 0 = .inr (.inr (.inl 14)) := rfl
theorem wgv_13_2 (w : W_) : w_gv w 13 2 = .inl (w.1 13 2) := rfl
theorem wgv_13_3 (w : W_) : w_gv w 13 3 = .inl (w.1 13 3) := rfl
theorem wgv_17_0 (w : W_) : w_gv w 17 0 = .inr (.inr (.inl 18)) := rfl
theorem wgv_17_1 (w : W_) : w_gv w 17 1 = .inr (.inr (.inl 20)) := rfl
theorem wgv_17_2 (w : W_) : w_gv w 17 2 = .inr (.inr (.inl 22)) := rfl
theorem wgv_17_3 (w : W_) : w_gv w 17 3 = .inl (w.1 17 3) := rfl
theorem wgv_17_4 (w : W_) : w_gv w 17 4 = .inl (w.1 17 4) := rfl
theorem wgv_17_5 (w : W_) : w_gv w 17 5 = .inl (w.1 17 5) := rfl
theorem wgv_17_6 (w : W_) : w_gv w 17 6 = .inl (w.1 17 6) := rfl
theorem wgv_17_7 (w : W_) : w_gv w 17 7 = .inr (.inr (.inl (w.1 17 7).toNat)) := rfl
theorem wgv_24_0 (w : W_) : w_gv w 24 0 = .inr (.inr (.inl 25)) := rfl
theorem wgv_24_1 (w : W_) : w_gv w 24 1 = .inr (.inr (.inl 27)) := rfl
theorem wgv_24_2 (w : W_) : w_gv w 24 2 = .inr (.inr (.inl 29)) := rfl
theorem wgv_24_3 (w : W_) : w_gv w 24 3 = .inr (.inr (.inl 31)) := rfl
theorem wgv_24_4 (w : W_) : w_gv w 24 4 = .inl (w.1 24 4) := rfl
theorem wgv_24_5 (w : W_) : w_gv w 24 5 = .inl (w.1 24 5) := rfl
theorem wgv_24_6 (w : W_) : w_gv w 24 6 = .inl (w.1 24 6) := rfl
theorem wgv_24_7 (w : W_) : w_gv w 24 7 = .inl (w.1 24 7) := rfl
theorem wgv_24_8 (w : W_) : w_gv w 24 8 = .inl (w.1 24 8) := rfl
theorem wgv_24_9 (w : W_) : w_gv w 24 9 = .inl (w.1 24 9) := rfl
theorem wgv_33_0 (w : W_) : w_gv w 33 0 = .inr (.inr (.inl 34)) := rfl
theorem wgv_33_1 (w : W_) : w_gv w 33 1 = .inl (w.1 33 1) := rfl
theorem wgv_36_0 (w : W_) : w_gv w 36 0 = .inr (.inr (.inl 2)) := rfl
theorem wgv_36_1 (w : W_) : w_gv w 36 1 = .inr (.inr (.inl 17)) := rfl
theorem wgv_36_2 (w : W_) : w_gv w 36 2 = .inr (.inr (.inl 37)) := rfl
theorem wgv_36_3 (w : W_) : w_gv w 36 3 = .inr (.inr (.inl 39)) := rfl
theorem wgv_36_4 (w : W_) : w_gv w 36 4 = .inl (w.1 36 4) := rfl
theorem wgv_36_5 (w : W_) : w_gv w 36 5 = .inl (w.1 36 5) := rfl
theorem wgv_36_6 (w : W_) : w_gv w 36 6 = .inl (w.1 36 6) := rfl
theorem wgv_41_0 (w : W_) : w_gv w 41 0 = .inr (.inr (.inl 2)) := rfl
theorem wgv_41_1 (w : W_) : w_gv w 41 1 = .inr (.inr (.inl 36)) := rfl
theorem wgv_41_2 (w : W_) : w_gv w 41 2 = .inr (.inr (.inl 13)) := rfl
theorem wgv_41_3 (w : W_) : w_gv w 41 3 = .inr (.inr (.inl 10)) := rfl
theorem wgv_41_4 (w : W_) : w_gv w 41 4 = .inr (.inr (.inl 17)) := rfl
theorem wgv_41_5 (w : W_) : w_gv w 41 5 = .inr (.inr (.inl 33)) := rfl
theorem wgv_41_6 (w : W_) : w_gv w 41 6 = .inr (.inr (.inl 42)) := rfl
theorem wgv_41_7 (w : W_) : w_gv w 41 7 = .inr (.inr (.inl 44)) := rfl
theorem wgv_41_8 (w : W_) : w_gv w 41 8 = .inr (.inr (.inl 46)) := rfl
theorem wgv_41_9 (w : W_) : w_gv w 41 9 = .inr (.inr (.inl 48)) := rfl
theorem wgv_41_10 (w : W_) : w_gv w 41 10 = .inl (w.1 41 10) := rfl
theorem wgv_41_11 (w : W_) : w_gv w 41 11 = .inl (w.1 41 11) := rfl
theorem wgv_41_12 (w : W_) : w_gv w 41 12 = .inl (w.1 41 12) := rfl
theorem wgv_41_13 (w : W_) : w_gv w 41 13 = .inl (w.1 41 13) := rfl
theorem wgv_41_14 (w : W_) : w_gv w 41 14 = .inl (w.1 41 14) := rfl
theorem wgv_41_15 (w : W_) : w_gv w 41 15 = .inl (w.1 41 15) := rfl
theorem wgv_41_16 (w : W_) : w_gv w 41 16 = .inl (w.1 41 16) := rfl
theorem wgv_41_17 (w : W_) : w_gv w 41 17 = .inl (w.1 41 17) := rfl
theorem wgv_50_0 (w : W_) : w_gv w 50 0 = .inr (.inr (.inl 13)) := rfl
theorem wgv_50_1 (w : W_) : w_gv w 50 1 = .inr (.inr (.inl 17)) := rfl
theorem wgv_50_2 (w : W_) : w_gv w 50 2 = .inr (.inr (.inl 33)) := rfl
theorem wgv_50_3 (w : W_) : w_gv w 50 3 = .inr (.inr (.inl 41)) := rfl
theorem wgv_50_4 (w : W_) : w_gv w 50 4 = .inr (.inr (.inl 36)) := rfl
theorem wgv_50_5 (w : W_) : w_gv w 50 5 = .inr (.inr (.inl 51)) := rfl
theorem wgv_50_6 (w : W_) : w_gv w 50 6 = .inr (.inr (.inl 53)) := rfl
theorem wgv_50_7 (w : W_) : w_gv w 50 7 = .inl (w.1 50 7) := rfl
theorem wgv_50_8 (w : W_) : w_gv w 50 8 = .inl (w.1 50 8) := rfl
theorem wgv_50_9 (w : W_) : w_gv w 50 9 = .inl (w.1 50 9) := rfl
theorem wgv_50_10 (w : W_) : w_gv w 50 10 = .inl (w.1 50 10) := rfl
theorem wgv_50_11 (w : W_) : w_gv w 50 11 = .inl (w.1 50 11) := rfl
theorem wgv_50_12 (w : W_) : w_gv w 50 12 = .inl (w.1 50 12) := rfl
theorem wgv_50_13 (w : W_) : w_gv w 50 13 = .inl (w.1 50 13) := rfl
theorem wgv_50_14 (w : W_) : w_gv w 50 14 = .inl (w.1 50 14) := rfl
theorem wgv_50_15 (w : W_) : w_gv w 50 15 = .inl (w.1 50 15) := rfl
theorem wgv_50_16 (w : W_) : w_gv w 50 16 = .inl (w.1 50 16) := rfl
theorem wgv_55_0 (w : W_) : w_gv w 55 0 = .inr (.inr (.inl 56)) := rfl
theorem wgv_55_1 (w : W_) : w_gv w 55 1 = .inr (.inr (.inl 58)) := rfl
theorem wgv_55_2 (w : W_) : w_gv w 55 2 = .inr (.inr (.inl 60)) := rfl
theorem wgv_55_3 (w : W_) : w_gv w 55 3 = .inr (.inr (.inl 62)) := rfl
theorem wgv_55_4 (w : W_) : w_gv w 55 4 = .inl (w.1 55 4) := rfl
theorem wgv_55_5 (w : W_) : w_gv w 55 5 = .inl (w.1 55 5) := rfl
theorem wgv_55_6 (w : W_) : w_gv w 55 6 = .inl (w.1 55 6) := rfl
theorem wgv_55_7 (w : W_) : w_gv w 55 7 = .inl (w.1 55 7) := rfl
theorem wgv_55_8 (w : W_) : w_gv w 55 8 = .inl (w.1 55 8) := rfl
theorem wgv_55_9 (w : W_) : w_gv w 55 9 = .inl (w.1 55 9) := rfl
theorem wgv_64_0 (w : W_) : w_gv w 64 0 = .inr (.inr (.inl 65)) := rfl
theorem wgv_64_1 (w : W_) : w_gv w 64 1 = .inr (.inr (.inl 67)) := rfl
theorem wgv_64_2 (w : W_) : w_gv w 64 2 = .inr (.inr (.inl 69)) := rfl
theorem wgv_64_3 (w : W_) : w_gv w 64 3 = .inr (.inr (.inl 71)) := rfl
theorem wgv_64_4 (w : W_) : w_gv w 64 4 = .inl (w.1 64 4) := rfl
theorem wgv_64_5 (w : W_) : w_gv w 64 5 = .inl (w.1 64 5) := rfl
theorem wgv_64_6 (w : W_) : w_gv w 64 6 = .inl (w.1 64 6) := rfl
theorem wgv_64_7 (w : W_) : w_gv w 64 7 = .inl (w.1 64 7) := rfl
theorem wgv_64_8 (w : W_) : w_gv w 64 8 = .inl (w.1 64 8) := rfl
theorem wgv_64_9 (w : W_) : w_gv w 64 9 = .inl (w.1 64 9) := rfl
theorem wgv_73_0 (w : W_) : w_gv w 73 0 = .inr (.inr (.inl 74)) := rfl
theorem wgv_73_1 (w : W_) : w_gv w 73 1 = .inr (.inr (.inl 75)) := rfl
theorem wgv_73_2 (w : W_) : w_gv w 73 2 = .inr (.inr (.inl 76)) := rfl
theorem wgv_73_3 (w : W_) : w_gv w 73 3 = .inl (w.1 73 3) := rfl
theorem wgv_73_4 (w : W_) : w_gv w 73 4 = .inl (w.1 73 4) := rfl
theorem wgv_73_5 (w : W_) : w_gv w 73 5 = .inl (w.1 73 5) := rfl
theorem wgv_73_6 (w : W_) : w_gv w 73 6 = .inr (.inr (.inl 77)) := rfl
theorem wgv_73_7 (w : W_) : w_gv w 73 7 = .inr (.inr (.inl 78)) := rfl
theorem wgv_73_8 (w : W_) : w_gv w 73 8 = .inr (.inr (.inl 79)) := rfl
theorem wgv_73_9 (w : W_) : w_gv w 73 9 = .inr (.inr (.inl 80)) := rfl
theorem wgv_73_10 (w : W_) : w_gv w 73 10 = .inr (.inr (.inl 81)) := rfl
theorem wgv_73_11 (w : W_) : w_gv w 73 11 = .inr (.inr (.inl 82)) := rfl
theorem wgv_73_12 (w : W_) : w_gv w 73 12 = .inr (.inr (.inl 83)) := rfl
theorem wgv_73_13 (w : W_) : w_gv w 73 13 = .inl (w.1 73 13) := rfl
theorem wgv_73_14 (w : W_) : w_gv w 73 14 = .inl (w.1 73 14) := rfl
theorem wgv_73_15 (w : W_) : w_gv w 73 15 = .inl (w.1 73 15) := rfl
theorem wgv_73_16 (w : W_) : w_gv w 73 16 = .inr (.inr (.inl 84)) := rfl
theorem wgv_73_17 (w : W_) : w_gv w 73 17 = .inl (w.1 73 17) := rfl
theorem wgv_73_18 (w : W_) : w_gv w 73 18 = .inr (.inr (.inl 85)) := rfl
theorem wgv_73_19 (w : W_) : w_gv w 73 19 = .inr (.inr (.inl 86)) := rfl
theorem wgv_73_20 (w : W_) : w_gv w 73 20 = .inr (.inr (.inl 87)) := rfl
theorem wgv_73_21 (w : W_) : w_gv w 73 21 = .inl (w.1 73 21) := rfl
theorem wgv_73_22 (w : W_) : w_gv w 73 22 = .inr (.inr (.inl 88)) := rfl
theorem wgv_73_23 (w : W_) : w_gv w 73 23 = .inr (.inr (.inl 89)) := rfl
theorem wgv_73_24 (w : W_) : w_gv w 73 24 = .inr (.inr (.inl 90)) := rfl
theorem wgv_73_25 (w : W_) : w_gv w 73 25 = .inr (.inr (.inl 91)) := rfl
theorem wgv_73_26 (w : W_) : w_gv w 73 26 = .inl (w.1 73 26) := rfl
theorem wgv_73_27 (w : W_) : w_gv w 73 27 = .inr (.inr (.inl 92)) := rfl
theorem wgv_73_28 (w : W_) : w_gv w 73 28 = .inr (.inr (.inl 93)) := rfl
theorem wgv_73_29 (w : W_) : w_gv w 73 29 = .inr (.inr (.inl 94)) := rfl
theorem wgv_73_30 (w : W_) : w_gv w 73 30 = .inr (.inr (.inl 95)) := rfl
theorem wgv_73_31 (w : W_) : w_gv w 73 31 = .inr (.inr (.inl 96)) := rfl
theorem wgv_73_32 (w : W_) : w_gv w 73 32 = .inr (.inr (.inl 97)) := rfl
theorem wgv_73_33 (w : W_) : w_gv w 73 33 = .inl (w.1 73 33) := rfl
theorem wgv_73_34 (w : W_) : w_gv w 73 34 = .inr (.inr (.inl 98)) := rfl
theorem wgv_73_35 (w : W_) : w_gv w 73 35 = .inl (w.1 73 35) := rfl
theorem wgv_73_36 (w : W_) : w_gv w 73 36 = .inr (.inr (.inl 99)) := rfl
theorem wgv_73_37 (w : W_) : w_gv w 73 37 = .inr (.inr (.inl 100)) := rfl
theorem wgv_73_38 (w : W_) : w_gv w 73 38 = .inr (.inr (.inl 101)) := rfl
theorem wgv_73_39 (w : W_) : w_gv w 73 39 = .inl (w.1 73 39) := rfl
theorem wgv_73_40 (w : W_) : w_gv w 73 40 = .inl (w.1 73 40) := rfl
theorem wgv_73_41 (w : W_) : w_gv w 73 41 = .inl (w.1 73 41) := rfl
theorem wgv_73_42 (w : W_) : w_gv w 73 42 = .inr (.inr (.inl 102)) := rfl
theorem wgv_73_43 (w : W_) : w_gv w 73 43 = .inl (w.1 73 43) := rfl
theorem wgv_73_44 (w : W_) : w_gv w 73 44 = .inl (w.1 73 44) := rfl
theorem wgv_73_45 (w : W_) : w_gv w 73 45 = .inl (w.1 73 45) := rfl
theorem wgv_73_46 (w : W_) : w_gv w 73 46 = .inr (.inl (w.1 73 46)) := rfl
theorem wgv_73_47 (w : W_) : w_gv w 73 47 = .inl (w.1 73 47) := rfl
theorem wgv_73_48 (w : W_) : w_gv w 73 48 = .inr (.inr (.inl 103)) := rfl
theorem wgv_73_49 (w : W_) : w_gv w 73 49 = .inr (.inr (.inl 104)) := rfl
theorem wgv_73_50 (w : W_) : w_gv w 73 50 = .inr (.inr (.inl 105)) := rfl
theorem wgv_73_51 (w : W_) : w_gv w 73 51 = .inr (.inr (.inl 106)) := rfl
theorem wgv_73_52 (w : W_) : w_gv w 73 52 = .inl (w.1 73 52) := rfl
theorem wgv_73_53 (w : W_) : w_gv w 73 53 = .inr (.inr (.inl 107)) := rfl
theorem wgv_73_54 (w : W_) : w_gv w 73 54 = .inr (.inr (.inl 108)) := rfl
theorem wgv_73_55 (w : W_) : w_gv w 73 55 = .inr (.inr (.inl 109)) := rfl
theorem wgv_73_56 (w : W_) : w_gv w 73 56 = .inr (.inr (.inl 110)) := rfl
theorem wgv_73_57 (w : W_) : w_gv w 73 57 = .inl (w.1 73 57) := rfl
theorem wgv_73_58 (w : W_) : w_gv w 73 58 = .inl (w.1 73 58) := rfl
theorem wgv_73_59 (w : W_) : w_gv w 73 59 = .inl (w.1 73 59) := rfl
theorem wgv_73_60 (w : W_) : w_gv w 73 60 = .inr (.inr (.inl 111)) := rfl
theorem wgv_73_61 (w : W_) : w_gv w 73 61 = .inl (w.1 73 61) := rfl
theorem wgv_73_62 (w : W_) : w_gv w 73 62 = .inl (w.1 73 62) := rfl
theorem wgv_73_63 (w : W_) : w_gv w 73 63 = .inr (.inr (.inl 112)) := rfl
theorem wgv_73_64 (w : W_) : w_gv w 73 64 = .inl (w.1 73 64) := rfl
theorem wgv_73_65 (w : W_) : w_gv w 73 65 = .inl (w.1 73 65) := rfl
theorem wgv_73_66 (w : W_) : w_gv w 73 66 = .inl (w.1 73 66) := rfl
theorem wgv_73_67 (w : W_) : w_gv w 73 67 = .inl (w.1 73 67) := rfl
theorem wgv_73_68 (w : W_) : w_gv w 73 68 = .inl (w.1 73 68) := rfl
theorem wgv_73_69 (w : W_) : w_gv w 73 69 = .inr (.inr (.inl 113)) := rfl
theorem wgv_73_70 (w : W_) : w_gv w 73 70 = .inl (w.1 73 70) := rfl
theorem wgv_73_71 (w : W_) : w_gv w 73 71 = .inr (.inr (.inl 114)) := rfl
theorem wgv_73_72 (w : W_) : w_gv w 73 72 = .inr (.inr (.inl 115)) := rfl
theorem wgv_73_73 (w : W_) : w_gv w 73 73 = .inr (.inr (.inl 116)) := rfl
theorem wgv_73_74 (w : W_) : w_gv w 73 74 = .inr (.inr (.inl 117)) := rfl
theorem wgv_73_75 (w : W_) : w_gv w 73 75 = .inr (.inr (.inl 118)) := rfl
theorem wgv_73_76 (w : W_) : w_gv w 73 76 = .inr (.inr (.inl 119)) := rfl
theorem wgv_73_77 (w : W_) : w_gv w 73 77 = .inr (.inr (.inl 120)) := rfl
theorem wgv_73_78 (w : W_) : w_gv w 73 78 = .inr (.inr (.inl 121)) := rfl
theorem wgv_73_79 (w : W_) : w_gv w 73 79 = .inl (w.1 73 79) := rfl
theorem wgv_73_80 (w : W_) : w_gv w 73 80 = .inl (w.1 73 80) := rfl
theorem wgv_73_81 (w : W_) : w_gv w 73 81 = .inl (w.1 73 81) := rfl
theorem wgv_73_82 (w : W_) : w_gv w 73 82 = .inr (.inr (.inl 122)) := rfl
theorem wgv_73_83 (w : W_) : w_gv w 73 83 = .inl (w.1 73 83) := rfl
theorem wgv_73_84 (w : W_) : w_gv w 73 84 = .inl (w.1 73 84) := rfl
theorem wgv_73_85 (w : W_) : w_gv w 73 85 = .inl (w.1 73 85) := rfl
theorem wgv_73_86 (w : W_) : w_gv w 73 86 = .inl (w.1 73 86) := rfl
theorem wgv_73_87 (w : W_) : w_gv w 73 87 = .inl (w.1 73 87) := rfl
theorem wgv_73_88 (w : W_) : w_gv w 73 88 = .inr (.inr (.inl 123)) := rfl
theorem wgv_73_89 (w : W_) : w_gv w 73 89 = .inl (w.1 73 89) := rfl
theorem wgv_73_90 (w : W_) : w_gv w 73 90 = .inr (.inr (.inl 124)) := rfl
theorem wgv_73_91 (w : W_) : w_gv w 73 91 = .inr (.inr (.inl 125)) := rfl
theorem wgv_73_92 (w : W_) : w_gv w 73 92 = .inr (.inr (.inl 126)) := rfl
theorem wgv_73_93 (w : W_) : w_gv w 73 93 = .inl (w.1 73 93) := rfl
