theorem steps_ok : StepsOK Inv := steps_of read_ok
