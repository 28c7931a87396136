/-! THE START: references and the year's row, looked at -/
def chkR (o : Option hm_M) : Bool := match o with
  | some M => (List.range 100).all (fun a => (List.range 34).all fun k => M.2.2 a k == rT 20 a k)
  | none => false
def chkY (o : Option hm_M) : Bool := match o with
  | some M => (List.range 2496).all (fun k => M.2.1 35 k == 0)
  | none => false
theorem chkR_ok : chkR iniM = true := by decide +kernel
theorem chkY_ok : chkY iniM = true := by decide +kernel
