/-- names a row of the far library, so that the first round reads it whole from the start -/
theorem zwide : True := (fun _ => trivial) @Stand.multianewarray2F
