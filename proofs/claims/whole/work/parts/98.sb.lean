/-! THE START: the made memory's cells, looked at -/
def iniC : List (Nat × Nat × Int32) := [(20, 0, 4), (20, 1, 4), (20, 2, 0), (20, 3, 0), (20, 4, 0), (82, 0, 4), (82, 1, 4), (82, 2, 0), (82, 3, 0), (82, 4, 0), (82, 65, -1), (82, 66, -1), (82, 67, -1), (82, 68, -1),
  (30, 0, 0), (30, 1, 0), (30, 2, 0), (30, 3, 0), (31, 0, 0), (31, 1, 0), (31, 2, 0), (31, 3, 0), (19, 3, -1), (43, 2, 0), (43, 3, 0), (36, 5, 0), (36, 1, 0), (36, 2, 0), (88, 12, 0), (88, 13, 0), (40, 2, 0), (40, 3, 0), (76, 21, 0),
  (89, 0, 0), (89, 1, 0), (89, 2, 0), (89, 3, 0), (1, 9, 0), (3, 1, 0), (76, 2, 0), (76, 23, 0), (37, 0, -1), (37, 1, -1), (37, 2, -1), (37, 3, -1), (37, 4, -1), (37, 5, -1), (37, 6, -1), (37, 7, -1), (37, 8, -1), (37, 9, -1), (37, 10, -1), (37, 11, -1)]
def chkI (o : Option hm_M) : Bool := match o with
  | some M => iniC.all (fun x => M.1 x.1 x.2.1 == x.2.2)
  | none => false
def chkW (o : Option hm_M) : Bool := match o with
  | some M => (List.range 22).all (fun k => M.2.1 81 k == lN (wordS k))
  | none => false
def iniM : Option hm_M := hv (g_Ps_init [.inr 11] 1 hm_zero) (fun M => g_Md_init sh2 76 M)
theorem chkI_ok : chkI iniM = true := by decide +kernel
theorem chkW_ok : chkW iniM = true := by decide +kernel
