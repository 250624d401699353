/-! the law's sounds, call by call -/
def gsd0 : Da := ([], [0, 0, 0], [60, 60, 60], [0, 0, 0, 0, 0, 0, 0, 0, 0, 0, 0, 0, 0, 0, 0, 0, 0], [(0, 0, 0, 0, 0, 0, 0, 0, 0), (0, 0, 0, 0, 0, 0, 0, 0, 0), (0, 0, 0, 0, 0, 0, 0, 0, 0), (0, 0, 0, 0, 0, 0, 0, 0, 0), (0, 0, 0, 0, 0, 0, 0, 0, 0), (0, 0, 0, 0, 0, 0, 0, 0, 0), (0, 0, 0, 0, 0, 0, 0, 0, 0), (0, 0, 0, 0, 0, 0, 0, 0, 0), (0, 0, 0, 0, 0, 0, 0, 0, 0), (0, 0, 0, 0, 0, 0, 0, 0, 0), (0, 0, 0, 0, 0, 0, 0, 0, 0), (0, 0, 0, 0, 0, 0, 0, 0, 0), (0, 0, 0, 0, 0, 0, 0, 0, 0), (0, 0, 0, 0, 0, 0, 0, 0, 0), (0, 0, 0, 0, 0, 0, 0, 0, 0), (0, 0, 0, 0, 0, 0, 0, 0, 0)], 0, [])
def gsd1 : Da := ([0], [0, 0, 0], [60, 60, 60], [0, 0, 0, 0, 0, 0, 0, 0, 0, 0, 0, 0, 0, 0, 0, 0, 0], [(0, 0, 0, 0, 0, 0, 0, 0, 0), (0, 0, 0, 0, 0, 0, 0, 0, 0), (0, 0, 0, 0, 0, 0, 0, 0, 0), (0, 0, 0, 0, 0, 0, 0, 0, 0), (0, 0, 0, 0, 0, 0, 0, 0, 0), (0, 0, 0, 0, 0, 0, 0, 0, 0), (0, 0, 0, 0, 0, 0, 0, 0, 0), (0, 0, 0, 0, 0, 0, 0, 0, 0), (0, 0, 0, 0, 0, 0, 0, 0, 0), (0, 0, 0, 0, 0, 0, 0, 0, 0), (0, 0, 0, 0, 0, 0, 0, 0, 0), (0, 0, 0, 0, 0, 0, 0, 0, 0), (0, 0, 0, 0, 0, 0, 0, 0, 0), (0, 0, 0, 0, 0, 0, 0, 0, 0), (0, 0, 0, 0, 0, 0, 0, 0, 0), (0, 0, 0, 0, 0, 0, 0, 0, 0)], 0, [])
def gsd2 : Da := ([0], [0, 0, 0], [60, 60, 60], [0, 0, 0, 0, 0, 0, 0, 0, 0, 0, 0, 0, 0, 0, 0, 0, 0], [(0, 590, 10, 0, 90, 70, (-1), 1, 0), (0, 0, 0, 0, 0, 0, 0, 0, 0), (0, 0, 0, 0, 0, 0, 0, 0, 0), (0, 0, 0, 0, 0, 0, 0, 0, 0), (0, 0, 0, 0, 0, 0, 0, 0, 0), (0, 0, 0, 0, 0, 0, 0, 0, 0), (0, 0, 0, 0, 0, 0, 0, 0, 0), (0, 0, 0, 0, 0, 0, 0, 0, 0), (0, 0, 0, 0, 0, 0, 0, 0, 0), (0, 0, 0, 0, 0, 0, 0, 0, 0), (0, 0, 0, 0, 0, 0, 0, 0, 0), (0, 0, 0, 0, 0, 0, 0, 0, 0), (0, 0, 0, 0, 0, 0, 0, 0, 0), (0, 0, 0, 0, 0, 0, 0, 0, 0), (0, 0, 0, 0, 0, 0, 0, 0, 0), (0, 0, 0, 0, 0, 0, 0, 0, 0)], 1, [])
def gsd3 : Da := ([0], [0, 0, 0], [60, 60, 60], [0, 0, 0, 0, 0, 0, 0, 0, 0, 0, 0, 0, 0, 0, 0, 0, 0], [(0, 590, 10, 0, 90, 70, (-1), 1, 0), (2, 595, 3, 1, 0, 21, (-1), 0, 0), (0, 0, 0, 0, 0, 0, 0, 0, 0), (0, 0, 0, 0, 0, 0, 0, 0, 0), (0, 0, 0, 0, 0, 0, 0, 0, 0), (0, 0, 0, 0, 0, 0, 0, 0, 0), (0, 0, 0, 0, 0, 0, 0, 0, 0), (0, 0, 0, 0, 0, 0, 0, 0, 0), (0, 0, 0, 0, 0, 0, 0, 0, 0), (0, 0, 0, 0, 0, 0, 0, 0, 0), (0, 0, 0, 0, 0, 0, 0, 0, 0), (0, 0, 0, 0, 0, 0, 0, 0, 0), (0, 0, 0, 0, 0, 0, 0, 0, 0), (0, 0, 0, 0, 0, 0, 0, 0, 0), (0, 0, 0, 0, 0, 0, 0, 0, 0), (0, 0, 0, 0, 0, 0, 0, 0, 0)], 1, [])
def gsd4 : Da := ([0], [0, 0, 0], [60, 60, 60], [0, 0, 0, 0, 0, 0, 0, 0, 0, 0, 0, 0, 0, 0, 0, 0, 0], [(0, 590, 10, 0, 90, 70, (-1), 1, 0), (2, 595, 3, 1, 0, 31, (-1), 0, 0), (0, 0, 0, 0, 0, 0, 0, 0, 0), (0, 0, 0, 0, 0, 0, 0, 0, 0), (0, 0, 0, 0, 0, 0, 0, 0, 0), (0, 0, 0, 0, 0, 0, 0, 0, 0), (0, 0, 0, 0, 0, 0, 0, 0, 0), (0, 0, 0, 0, 0, 0, 0, 0, 0), (0, 0, 0, 0, 0, 0, 0, 0, 0), (0, 0, 0, 0, 0, 0, 0, 0, 0), (0, 0, 0, 0, 0, 0, 0, 0, 0), (0, 0, 0, 0, 0, 0, 0, 0, 0), (0, 0, 0, 0, 0, 0, 0, 0, 0), (0, 0, 0, 0, 0, 0, 0, 0, 0), (0, 0, 0, 0, 0, 0, 0, 0, 0), (0, 0, 0, 0, 0, 0, 0, 0, 0)], 1, [])
def gsd5 : Da := ([0], [0, 0, 0], [60, 60, 60], [0, 0, 0, 0, 0, 0, 0, 0, 0, 0, 0, 0, 0, 0, 0, 0, 0], [(0, 590, 10, 0, 90, 70, (-1), 1, 0), (1, 0, 3, 1, 0, 71, (-1), 0, 0), (0, 0, 0, 0, 0, 0, 0, 0, 0), (0, 0, 0, 0, 0, 0, 0, 0, 0), (0, 0, 0, 0, 0, 0, 0, 0, 0), (0, 0, 0, 0, 0, 0, 0, 0, 0), (0, 0, 0, 0, 0, 0, 0, 0, 0), (0, 0, 0, 0, 0, 0, 0, 0, 0), (0, 0, 0, 0, 0, 0, 0, 0, 0), (0, 0, 0, 0, 0, 0, 0, 0, 0), (0, 0, 0, 0, 0, 0, 0, 0, 0), (0, 0, 0, 0, 0, 0, 0, 0, 0), (0, 0, 0, 0, 0, 0, 0, 0, 0), (0, 0, 0, 0, 0, 0, 0, 0, 0), (0, 0, 0, 0, 0, 0, 0, 0, 0), (0, 0, 0, 0, 0, 0, 0, 0, 0)], 1, [])
def gsd6 : Da := ([0], [0, 0, 0], [60, 60, 60], [0, 0, 0, 0, 0, 0, 0, 0, 0, 0, 0, 0, 0, 0, 0, 0, 0], [(0, 590, 10, 0, 90, 70, (-1), 1, 0), (1, 0, 3, 1, 0, 70, (-1), 0, 0), (0, 0, 0, 0, 0, 0, 0, 0, 0), (0, 0, 0, 0, 0, 0, 0, 0, 0), (0, 0, 0, 0, 0, 0, 0, 0, 0), (0, 0, 0, 0, 0, 0, 0, 0, 0), (0, 0, 0, 0, 0, 0, 0, 0, 0), (0, 0, 0, 0, 0, 0, 0, 0, 0), (0, 0, 0, 0, 0, 0, 0, 0, 0), (0, 0, 0, 0, 0, 0, 0, 0, 0), (0, 0, 0, 0, 0, 0, 0, 0, 0), (0, 0, 0, 0, 0, 0, 0, 0, 0), (0, 0, 0, 0, 0, 0, 0, 0, 0), (0, 0, 0, 0, 0, 0, 0, 0, 0), (0, 0, 0, 0, 0, 0, 0, 0, 0), (0, 0, 0, 0, 0, 0, 0, 0, 0)], 1, [])
def gsd7 : Da := ([0], [0, 0, 0], [60, 60, 60], [0, 0, 0, 0, 0, 0, 0, 0, 0, 0, 0, 0, 0, 0, 0, 0, 0], [(0, 590, 10, 0, 90, 70, (-1), 1, 0), (1, 600, 3, 1, 0, 61, (-1), 0, 0), (0, 0, 0, 0, 0, 0, 0, 0, 0), (0, 0, 0, 0, 0, 0, 0, 0, 0), (0, 0, 0, 0, 0, 0, 0, 0, 0), (0, 0, 0, 0, 0, 0, 0, 0, 0), (0, 0, 0, 0, 0, 0, 0, 0, 0), (0, 0, 0, 0, 0, 0, 0, 0, 0), (0, 0, 0, 0, 0, 0, 0, 0, 0), (0, 0, 0, 0, 0, 0, 0, 0, 0), (0, 0, 0, 0, 0, 0, 0, 0, 0), (0, 0, 0, 0, 0, 0, 0, 0, 0), (0, 0, 0, 0, 0, 0, 0, 0, 0), (0, 0, 0, 0, 0, 0, 0, 0, 0), (0, 0, 0, 0, 0, 0, 0, 0, 0), (0, 0, 0, 0, 0, 0, 0, 0, 0)], 1, [])
def gsd8 : Da := ([0], [0, 0, 0], [60, 60, 60], [0, 0, 0, 0, 0, 0, 0, 0, 0, 0, 0, 0, 0, 0, 0, 0, 0], [(0, 590, 10, 0, 90, 70, (-1), 1, 0), (1, 600, 3, 1, 0, 60, (-1), 0, 0), (0, 0, 0, 0, 0, 0, 0, 0, 0), (0, 0, 0, 0, 0, 0, 0, 0, 0), (0, 0, 0, 0, 0, 0, 0, 0, 0), (0, 0, 0, 0, 0, 0, 0, 0, 0), (0, 0, 0, 0, 0, 0, 0, 0, 0), (0, 0, 0, 0, 0, 0, 0, 0, 0), (0, 0, 0, 0, 0, 0, 0, 0, 0), (0, 0, 0, 0, 0, 0, 0, 0, 0), (0, 0, 0, 0, 0, 0, 0, 0, 0), (0, 0, 0, 0, 0, 0, 0, 0, 0), (0, 0, 0, 0, 0, 0, 0, 0, 0), (0, 0, 0, 0, 0, 0, 0, 0, 0), (0, 0, 0, 0, 0, 0, 0, 0, 0), (0, 0, 0, 0, 0, 0, 0, 0, 0)], 1, [])
def gsd9 : Da := ([0], [0, 0, 0], [70, 60, 60], [0, 0, 0, 0, 0, 0, 0, 0, 0, 0, 0, 0, 0, 0, 0, 0, 0], [(0, 590, 10, 0, 90, 70, (-1), 1, 0), (1, 600, 3, 1, 0, 60, (-1), 0, 0), (0, 0, 0, 0, 0, 0, 0, 0, 0), (0, 0, 0, 0, 0, 0, 0, 0, 0), (0, 0, 0, 0, 0, 0, 0, 0, 0), (0, 0, 0, 0, 0, 0, 0, 0, 0), (0, 0, 0, 0, 0, 0, 0, 0, 0), (0, 0, 0, 0, 0, 0, 0, 0, 0), (0, 0, 0, 0, 0, 0, 0, 0, 0), (0, 0, 0, 0, 0, 0, 0, 0, 0), (0, 0, 0, 0, 0, 0, 0, 0, 0), (0, 0, 0, 0, 0, 0, 0, 0, 0), (0, 0, 0, 0, 0, 0, 0, 0, 0), (0, 0, 0, 0, 0, 0, 0, 0, 0), (0, 0, 0, 0, 0, 0, 0, 0, 0), (0, 0, 0, 0, 0, 0, 0, 0, 0)], 1, [])
def gsd10 : Da := ([0], [0, 0, 0], [70, 60, 60], [0, 0, 0, 0, 0, 0, 0, 0, 0, 0, 0, 0, 0, 0, 0, 0, 0], [(0, 591, 10, 0, 90, 70, (-1), 1, 0), (1, 600, 3, 1, 0, 60, (-1), 0, 0), (0, 0, 0, 0, 0, 0, 0, 0, 0), (0, 0, 0, 0, 0, 0, 0, 0, 0), (0, 0, 0, 0, 0, 0, 0, 0, 0), (0, 0, 0, 0, 0, 0, 0, 0, 0), (0, 0, 0, 0, 0, 0, 0, 0, 0), (0, 0, 0, 0, 0, 0, 0, 0, 0), (0, 0, 0, 0, 0, 0, 0, 0, 0), (0, 0, 0, 0, 0, 0, 0, 0, 0), (0, 0, 0, 0, 0, 0, 0, 0, 0), (0, 0, 0, 0, 0, 0, 0, 0, 0), (0, 0, 0, 0, 0, 0, 0, 0, 0), (0, 0, 0, 0, 0, 0, 0, 0, 0), (0, 0, 0, 0, 0, 0, 0, 0, 0), (0, 0, 0, 0, 0, 0, 0, 0, 0)], 1, [])
def gsd11 : Da := ([0], [0, 0, 0], [70, 60, 60], [0, 0, 0, 0, 0, 0, 0, 0, 0, (-1), 0, 0, 0, 0, 0, 0, 0], [(0, 591, 10, 0, 90, 70, (-1), 1, 0), (1, 600, 3, 1, 0, 60, (-1), 0, 0), (0, 0, 0, 0, 0, 0, 0, 0, 0), (0, 0, 0, 0, 0, 0, 0, 0, 0), (0, 0, 0, 0, 0, 0, 0, 0, 0), (0, 0, 0, 0, 0, 0, 0, 0, 0), (0, 0, 0, 0, 0, 0, 0, 0, 0), (0, 0, 0, 0, 0, 0, 0, 0, 0), (0, 0, 0, 0, 0, 0, 0, 0, 0), (0, 0, 0, 0, 0, 0, 0, 0, 0), (0, 0, 0, 0, 0, 0, 0, 0, 0), (0, 0, 0, 0, 0, 0, 0, 0, 0), (0, 0, 0, 0, 0, 0, 0, 0, 0), (0, 0, 0, 0, 0, 0, 0, 0, 0), (0, 0, 0, 0, 0, 0, 0, 0, 0), (0, 0, 0, 0, 0, 0, 0, 0, 0)], 1, [])
def gsd12 : Da := ([0], [0, 0, 0], [70, 60, 60], [0, 0, 0, 0, 0, 0, 0, 0, 0, (-1), 5, 0, 0, 0, 0, 0, 0], [(0, 591, 10, 0, 90, 70, (-1), 1, 0), (1, 600, 3, 1, 0, 60, (-1), 0, 0), (0, 0, 0, 0, 0, 0, 0, 0, 0), (0, 0, 0, 0, 0, 0, 0, 0, 0), (0, 0, 0, 0, 0, 0, 0, 0, 0), (0, 0, 0, 0, 0, 0, 0, 0, 0), (0, 0, 0, 0, 0, 0, 0, 0, 0), (0, 0, 0, 0, 0, 0, 0, 0, 0), (0, 0, 0, 0, 0, 0, 0, 0, 0), (0, 0, 0, 0, 0, 0, 0, 0, 0), (0, 0, 0, 0, 0, 0, 0, 0, 0), (0, 0, 0, 0, 0, 0, 0, 0, 0), (0, 0, 0, 0, 0, 0, 0, 0, 0), (0, 0, 0, 0, 0, 0, 0, 0, 0), (0, 0, 0, 0, 0, 0, 0, 0, 0), (0, 0, 0, 0, 0, 0, 0, 0, 0)], 1, [])
def gsd13 : Da := ([0], [0, 0, 0], [70, 60, 60], [0, 0, 0, 0, 0, 0, 0, 0, 0, (-1), 5, 0, 0, 0, 0, 0, 10], [(0, 591, 10, 0, 90, 70, (-1), 1, 0), (1, 600, 3, 1, 0, 60, (-1), 0, 0), (0, 0, 0, 0, 0, 0, 0, 0, 0), (0, 0, 0, 0, 0, 0, 0, 0, 0), (0, 0, 0, 0, 0, 0, 0, 0, 0), (0, 0, 0, 0, 0, 0, 0, 0, 0), (0, 0, 0, 0, 0, 0, 0, 0, 0), (0, 0, 0, 0, 0, 0, 0, 0, 0), (0, 0, 0, 0, 0, 0, 0, 0, 0), (0, 0, 0, 0, 0, 0, 0, 0, 0), (0, 0, 0, 0, 0, 0, 0, 0, 0), (0, 0, 0, 0, 0, 0, 0, 0, 0), (0, 0, 0, 0, 0, 0, 0, 0, 0), (0, 0, 0, 0, 0, 0, 0, 0, 0), (0, 0, 0, 0, 0, 0, 0, 0, 0), (0, 0, 0, 0, 0, 0, 0, 0, 0)], 1, [])
def gsd14 : Da := ([0], [0, 0, 0], [70, 60, 60], [(-10), 0, 0, 0, 0, 0, 0, 0, 0, (-1), 5, 0, 0, 0, 0, 0, 10], [(0, 591, 10, 0, 90, 70, (-1), 1, 0), (1, 600, 3, 1, 0, 60, (-1), 0, 0), (0, 0, 0, 0, 0, 0, 0, 0, 0), (0, 0, 0, 0, 0, 0, 0, 0, 0), (0, 0, 0, 0, 0, 0, 0, 0, 0), (0, 0, 0, 0, 0, 0, 0, 0, 0), (0, 0, 0, 0, 0, 0, 0, 0, 0), (0, 0, 0, 0, 0, 0, 0, 0, 0), (0, 0, 0, 0, 0, 0, 0, 0, 0), (0, 0, 0, 0, 0, 0, 0, 0, 0), (0, 0, 0, 0, 0, 0, 0, 0, 0), (0, 0, 0, 0, 0, 0, 0, 0, 0), (0, 0, 0, 0, 0, 0, 0, 0, 0), (0, 0, 0, 0, 0, 0, 0, 0, 0), (0, 0, 0, 0, 0, 0, 0, 0, 0), (0, 0, 0, 0, 0, 0, 0, 0, 0)], 1, [])
def gsd15 : Da := ([0], [0, 0, 0], [70, 60, 60], [(-10), 0, 0, 0, 0, 0, 0, 0, 0, (-1), 5, 0, 0, 0, 0, 0, 10], [(0, 591, 10, 0, 90, 75, (-1), 1, 0), (1, 600, 3, 1, 0, 60, (-1), 0, 0), (0, 0, 0, 0, 0, 0, 0, 0, 0), (0, 0, 0, 0, 0, 0, 0, 0, 0), (0, 0, 0, 0, 0, 0, 0, 0, 0), (0, 0, 0, 0, 0, 0, 0, 0, 0), (0, 0, 0, 0, 0, 0, 0, 0, 0), (0, 0, 0, 0, 0, 0, 0, 0, 0), (0, 0, 0, 0, 0, 0, 0, 0, 0), (0, 0, 0, 0, 0, 0, 0, 0, 0), (0, 0, 0, 0, 0, 0, 0, 0, 0), (0, 0, 0, 0, 0, 0, 0, 0, 0), (0, 0, 0, 0, 0, 0, 0, 0, 0), (0, 0, 0, 0, 0, 0, 0, 0, 0), (0, 0, 0, 0, 0, 0, 0, 0, 0), (0, 0, 0, 0, 0, 0, 0, 0, 0)], 1, [])
def gsd16 : Da := ([0], [0, 0, 0], [70, 60, 60], [(-10), 0, 0, 0, 0, 0, 0, 0, 0, (-1), 5, 0, 0, 0, 0, 0, 10], [(0, 591, 10, 0, 90, 65, (-1), 1, 0), (1, 600, 3, 1, 0, 60, (-1), 0, 0), (0, 0, 0, 0, 0, 0, 0, 0, 0), (0, 0, 0, 0, 0, 0, 0, 0, 0), (0, 0, 0, 0, 0, 0, 0, 0, 0), (0, 0, 0, 0, 0, 0, 0, 0, 0), (0, 0, 0, 0, 0, 0, 0, 0, 0), (0, 0, 0, 0, 0, 0, 0, 0, 0), (0, 0, 0, 0, 0, 0, 0, 0, 0), (0, 0, 0, 0, 0, 0, 0, 0, 0), (0, 0, 0, 0, 0, 0, 0, 0, 0), (0, 0, 0, 0, 0, 0, 0, 0, 0), (0, 0, 0, 0, 0, 0, 0, 0, 0), (0, 0, 0, 0, 0, 0, 0, 0, 0), (0, 0, 0, 0, 0, 0, 0, 0, 0), (0, 0, 0, 0, 0, 0, 0, 0, 0)], 1, [])
def gsd17 : Da := ([0], [0, 0, 0], [70, 60, 60], [(-10), 0, 0, 0, 0, 0, 0, 0, 0, (-1), 5, 0, 0, 0, 0, 0, 10], [(0, 591, 10, 0, 70, 65, (-1), 1, 0), (1, 600, 3, 1, 0, 60, (-1), 0, 0), (0, 0, 0, 0, 0, 0, 0, 0, 0), (0, 0, 0, 0, 0, 0, 0, 0, 0), (0, 0, 0, 0, 0, 0, 0, 0, 0), (0, 0, 0, 0, 0, 0, 0, 0, 0), (0, 0, 0, 0, 0, 0, 0, 0, 0), (0, 0, 0, 0, 0, 0, 0, 0, 0), (0, 0, 0, 0, 0, 0, 0, 0, 0), (0, 0, 0, 0, 0, 0, 0, 0, 0), (0, 0, 0, 0, 0, 0, 0, 0, 0), (0, 0, 0, 0, 0, 0, 0, 0, 0), (0, 0, 0, 0, 0, 0, 0, 0, 0), (0, 0, 0, 0, 0, 0, 0, 0, 0), (0, 0, 0, 0, 0, 0, 0, 0, 0), (0, 0, 0, 0, 0, 0, 0, 0, 0)], 1, [])
def gsd18 : Da := ([0], [0, 0, 0], [70, 60, 60], [(-10), 0, 0, 0, 0, 0, 0, 0, 0, (-1), 5, 0, 0, 0, 0, 0, 10], [(0, 591, 10, 0, 90, 65, (-1), 1, 0), (1, 0, 5, 0, 10, 3, (-1), 1, 0), (0, 0, 0, 0, 0, 0, 0, 0, 0), (0, 0, 0, 0, 0, 0, 0, 0, 0), (0, 0, 0, 0, 0, 0, 0, 0, 0), (0, 0, 0, 0, 0, 0, 0, 0, 0), (0, 0, 0, 0, 0, 0, 0, 0, 0), (0, 0, 0, 0, 0, 0, 0, 0, 0), (0, 0, 0, 0, 0, 0, 0, 0, 0), (0, 0, 0, 0, 0, 0, 0, 0, 0), (0, 0, 0, 0, 0, 0, 0, 0, 0), (0, 0, 0, 0, 0, 0, 0, 0, 0), (0, 0, 0, 0, 0, 0, 0, 0, 0), (0, 0, 0, 0, 0, 0, 0, 0, 0), (0, 0, 0, 0, 0, 0, 0, 0, 0), (0, 0, 0, 0, 0, 0, 0, 0, 0)], 2, [])
def gsd19 : Da := ([0], [0, 0, 0], [70, 60, 60], [(-10), 0, 0, 0, 0, 0, 0, 0, 0, (-1), 5, 0, 0, 0, 0, 0, 10], [(0, 591, 10, 0, 90, 65, (-1), 1, 0), (1, 0, 5, 0, 0, 3, (-1), 1, 0), (0, 0, 0, 0, 0, 0, 0, 0, 0), (0, 0, 0, 0, 0, 0, 0, 0, 0), (0, 0, 0, 0, 0, 0, 0, 0, 0), (0, 0, 0, 0, 0, 0, 0, 0, 0), (0, 0, 0, 0, 0, 0, 0, 0, 0), (0, 0, 0, 0, 0, 0, 0, 0, 0), (0, 0, 0, 0, 0, 0, 0, 0, 0), (0, 0, 0, 0, 0, 0, 0, 0, 0), (0, 0, 0, 0, 0, 0, 0, 0, 0), (0, 0, 0, 0, 0, 0, 0, 0, 0), (0, 0, 0, 0, 0, 0, 0, 0, 0), (0, 0, 0, 0, 0, 0, 0, 0, 0), (0, 0, 0, 0, 0, 0, 0, 0, 0), (0, 0, 0, 0, 0, 0, 0, 0, 0)], 2, [])
def gsd20 : Da := ([0], [0, 0, 0], [70, 60, 60], [(-10), 0, 0, 0, 0, 0, 0, 0, 0, (-1), 5, 0, 0, 0, 0, 0, 10], [(0, 591, 10, 0, 90, 65, (-1), 1, 0), (1, 0, 5, 0, 0, 0, (-1), 1, 0), (0, 0, 0, 0, 0, 0, 0, 0, 0), (0, 0, 0, 0, 0, 0, 0, 0, 0), (0, 0, 0, 0, 0, 0, 0, 0, 0), (0, 0, 0, 0, 0, 0, 0, 0, 0), (0, 0, 0, 0, 0, 0, 0, 0, 0), (0, 0, 0, 0, 0, 0, 0, 0, 0), (0, 0, 0, 0, 0, 0, 0, 0, 0), (0, 0, 0, 0, 0, 0, 0, 0, 0), (0, 0, 0, 0, 0, 0, 0, 0, 0), (0, 0, 0, 0, 0, 0, 0, 0, 0), (0, 0, 0, 0, 0, 0, 0, 0, 0), (0, 0, 0, 0, 0, 0, 0, 0, 0), (0, 0, 0, 0, 0, 0, 0, 0, 0), (0, 0, 0, 0, 0, 0, 0, 0, 0)], 2, [])
def gsd21 : Da := ([0, 20], [0, 0, 0], [70, 60, 60], [(-10), 0, 0, 0, 0, 0, 0, 0, 0, (-1), 5, 0, 0, 0, 0, 0, 10], [(0, 591, 10, 0, 90, 65, (-1), 1, 0), (1, 0, 5, 0, 0, 0, (-1), 1, 0), (0, 0, 0, 0, 0, 0, 0, 0, 0), (0, 0, 0, 0, 0, 0, 0, 0, 0), (0, 0, 0, 0, 0, 0, 0, 0, 0), (0, 0, 0, 0, 0, 0, 0, 0, 0), (0, 0, 0, 0, 0, 0, 0, 0, 0), (0, 0, 0, 0, 0, 0, 0, 0, 0), (0, 0, 0, 0, 0, 0, 0, 0, 0), (0, 0, 0, 0, 0, 0, 0, 0, 0), (0, 0, 0, 0, 0, 0, 0, 0, 0), (0, 0, 0, 0, 0, 0, 0, 0, 0), (0, 0, 0, 0, 0, 0, 0, 0, 0), (0, 0, 0, 0, 0, 0, 0, 0, 0), (0, 0, 0, 0, 0, 0, 0, 0, 0), (0, 0, 0, 0, 0, 0, 0, 0, 0)], 2, [])
def gsd22 : Da := ([0, 20, 30], [0, 0, 0], [70, 60, 60], [(-10), 0, 0, 0, 0, 0, 0, 0, 0, (-1), 5, 0, 0, 0, 0, 0, 10], [(0, 591, 10, 0, 90, 65, (-1), 1, 0), (1, 0, 5, 0, 0, 0, (-1), 1, 0), (0, 0, 0, 0, 0, 0, 0, 0, 0), (0, 0, 0, 0, 0, 0, 0, 0, 0), (0, 0, 0, 0, 0, 0, 0, 0, 0), (0, 0, 0, 0, 0, 0, 0, 0, 0), (0, 0, 0, 0, 0, 0, 0, 0, 0), (0, 0, 0, 0, 0, 0, 0, 0, 0), (0, 0, 0, 0, 0, 0, 0, 0, 0), (0, 0, 0, 0, 0, 0, 0, 0, 0), (0, 0, 0, 0, 0, 0, 0, 0, 0), (0, 0, 0, 0, 0, 0, 0, 0, 0), (0, 0, 0, 0, 0, 0, 0, 0, 0), (0, 0, 0, 0, 0, 0, 0, 0, 0), (0, 0, 0, 0, 0, 0, 0, 0, 0), (0, 0, 0, 0, 0, 0, 0, 0, 0)], 2, [])
def gsd23 : Da := ([0, 20, 30], [0, 0, 0], [70, 60, 60], [(-10), 0, 0, 0, 0, 0, 0, 0, 0, (-1), 5, 0, 0, 0, 0, 0, 10], [(0, 591, 10, 0, 90, 65, (-1), 1, 0), (1, 0, 5, 0, 0, 0, (-1), 1, 0), (1, 40, 5, 2, 190, 0, (-1), 1, 0), (0, 0, 0, 0, 0, 0, 0, 0, 0), (0, 0, 0, 0, 0, 0, 0, 0, 0), (0, 0, 0, 0, 0, 0, 0, 0, 0), (0, 0, 0, 0, 0, 0, 0, 0, 0), (0, 0, 0, 0, 0, 0, 0, 0, 0), (0, 0, 0, 0, 0, 0, 0, 0, 0), (0, 0, 0, 0, 0, 0, 0, 0, 0), (0, 0, 0, 0, 0, 0, 0, 0, 0), (0, 0, 0, 0, 0, 0, 0, 0, 0), (0, 0, 0, 0, 0, 0, 0, 0, 0), (0, 0, 0, 0, 0, 0, 0, 0, 0), (0, 0, 0, 0, 0, 0, 0, 0, 0), (0, 0, 0, 0, 0, 0, 0, 0, 0)], 3, [])
def gsd24 : Da := ([0, 20, 30], [0, 0, 0], [70, 60, 60], [(-10), 0, 0, 0, 0, 0, 0, 0, 0, (-1), 5, 0, 0, 0, 0, 0, 10], [(0, 591, 10, 0, 90, 65, (-1), 1, 0), (1, 0, 5, 0, 0, 0, (-1), 1, 0), (1, 40, 5, 2, 200, 0, (-1), 1, 0), (0, 0, 0, 0, 0, 0, 0, 0, 0), (0, 0, 0, 0, 0, 0, 0, 0, 0), (0, 0, 0, 0, 0, 0, 0, 0, 0), (0, 0, 0, 0, 0, 0, 0, 0, 0), (0, 0, 0, 0, 0, 0, 0, 0, 0), (0, 0, 0, 0, 0, 0, 0, 0, 0), (0, 0, 0, 0, 0, 0, 0, 0, 0), (0, 0, 0, 0, 0, 0, 0, 0, 0), (0, 0, 0, 0, 0, 0, 0, 0, 0), (0, 0, 0, 0, 0, 0, 0, 0, 0), (0, 0, 0, 0, 0, 0, 0, 0, 0), (0, 0, 0, 0, 0, 0, 0, 0, 0), (0, 0, 0, 0, 0, 0, 0, 0, 0)], 3, [])
def gsd25 : Da := ([0, 20, 30], [0, 0, 0], [70, 60, 60], [(-10), 0, 0, 0, 0, 0, 0, 0, 0, (-1), 5, 0, 0, 0, 0, 0, 10], [(0, 591, 10, 0, 90, 65, (-1), 1, 0), (1, 0, 5, 0, 0, 0, (-1), 1, 0), (1, 40, 5, 2, 200, 0, (-1), 0, 0), (0, 0, 0, 0, 0, 0, 0, 0, 0), (0, 0, 0, 0, 0, 0, 0, 0, 0), (0, 0, 0, 0, 0, 0, 0, 0, 0), (0, 0, 0, 0, 0, 0, 0, 0, 0), (0, 0, 0, 0, 0, 0, 0, 0, 0), (0, 0, 0, 0, 0, 0, 0, 0, 0), (0, 0, 0, 0, 0, 0, 0, 0, 0), (0, 0, 0, 0, 0, 0, 0, 0, 0), (0, 0, 0, 0, 0, 0, 0, 0, 0), (0, 0, 0, 0, 0, 0, 0, 0, 0), (0, 0, 0, 0, 0, 0, 0, 0, 0), (0, 0, 0, 0, 0, 0, 0, 0, 0), (0, 0, 0, 0, 0, 0, 0, 0, 0)], 3, [])
set_option maxRecDepth 100000 in
set_option maxHeartbeats 4000000 in
theorem gs_9 (l : Launch) (hst : l.stackTraces = false) {p : Program} {e : Env} {s : State} {m : MethodId} {args : Array Value} {below : List Frame} {meth : Method} {cd : Code} {A : Nat → Prop} {h : Nat → Nat} {D : va_G} {c : Nat → ClassId} (hC : CX p m cd cL_sounds 1 s args h D c A) (hr : meth.sig.returnType = some .boolean) (hlocks : meth.locks = false) (hAO : zAO A s s.heap) : ∀ (σ κ : Nat → Nat → Int) (ω : Nat × (Nat → Int32) × Int32) (H : Heap) (locs : List Loc) (ls : Array Slot), WS D c h A s σ κ ω gsd25 [108, 105, 103, 104, 116] H locs → lv_has ls 1 [(0, .ref (h 0))] → W p l e { frames := 14, cells := 1271, slots := 6 * 1271, locals := 300 } s m args below meth cd H locs 1246 7533 (MQ below (va_Qi (fun r (u : Int × Unit) => r = iz u.1 ∧ u.1 = 1) (fun u t => zB 0 (fun _ => 0) D (fun _ => .inr (0, [])) t.heap) A) args s 1271 (6 * 1271) A) (F0 m 950 ls []) := by
  intro σ κ ω H locs ls hW hl
  refine lv_aload_n hC.1.1 hC.1.2.1 dL_sounds_950 rfl (lv_at hl 0 rfl) ?_
  refine zi_bipush hC.1.1 hC.1.2.1 dL_sounds_951 rfl ?_
  refine zi_const hC.1.1 hC.1.2.1 dL_sounds_953 ?_
  refine zi_const hC.1.1 hC.1.2.1 dL_sounds_954 ?_
  refine zi_const hC.1.1 hC.1.2.1 dL_sounds_955 ?_
  refine hx_act7_2 hst hC hW.1 hW.2.1 hW.2.2.1.1 (by decide) (WL_6 hW.2.2.2) (WL_by hW.2.2.2) ⟨(by rw [ES_na0 hW.2.2.1]; decide), Or.inl (by rw [(ES_ac hW.2.2.1 (k := (2 : Int).toNat) (by decide)).2.2.2.2.2.2.2.1]; decide +kernel)⟩ dL_sounds_956 hl.1 (Nat.le_of_ble_eq_true rfl) ⟨(Nat.le_of_ble_eq_true rfl), (Nat.le_of_ble_eq_true rfl)⟩ ⟨(Nat.le_of_ble_eq_true rfl), (Nat.le_of_ble_eq_true rfl)⟩ (fun H locs hP hS => ?_)
  have hW : WS D c h A s σ κ ω gsd25 [108, 105, 103, 104, 116] H locs := ⟨hP, hS, hW.2.2⟩
  refine zi_bipush hC.1.1 hC.1.2.1 dL_sounds_959 rfl ?_
  refine zi_icmp_ne (tgt := 975) hC.1.1 hC.1.2.1 dL_sounds_961 (by decide) (by decide) (by decide) (fun q => absurd q (by decide)) (fun _ => ?_)
  refine lv_aload_n hC.1.1 hC.1.2.1 dL_sounds_964 rfl (lv_at hl 0 rfl) ?_
  refine d_fine hC hW (by decide +kernel) (by decide +kernel) dL_sounds_965 hl.1 (Nat.le_of_ble_eq_true rfl) ⟨(Nat.le_of_ble_eq_true rfl), (Nat.le_of_ble_eq_true rfl)⟩ ⟨(Nat.le_of_ble_eq_true rfl), (Nat.le_of_ble_eq_true rfl)⟩ (fun σ κ ω H locs hW => ?_)
  refine zi_if_eq (tgt := 975) hC.1.1 hC.1.2.1 dL_sounds_968 (by decide) (by decide) (fun q => absurd q (by decide)) (fun _ => ?_)
  refine zi_const hC.1.1 hC.1.2.1 dL_sounds_971 ?_
  refine lv_goto (tgt := 976) hC.1.1 hC.1.2.1 dL_sounds_972 (by decide) ?_
  exact z_sreti (n := 0) (h := fun _ => 0) (S := Unit) (w := fun _ _ => .inr (0, [])) (u := ()) (P := fun z _ => z = 1) hC.1 hr hlocks (fun k q hk => absurd (wN_lt hk).1 (Nat.not_lt_zero _)) hW.2.1 (Nat.le_of_ble_eq_true rfl) (Nat.le_of_ble_eq_true rfl) rfl rfl dL_sounds_976
set_option maxRecDepth 100000 in
set_option maxHeartbeats 4000000 in
theorem gs_8 (l : Launch) (hst : l.stackTraces = false) {p : Program} {e : Env} {s : State} {m : MethodId} {args : Array Value} {below : List Frame} {meth : Method} {cd : Code} {A : Nat → Prop} {h : Nat → Nat} {D : va_G} {c : Nat → ClassId} (hC : CX p m cd cL_sounds 1 s args h D c A) (hr : meth.sig.returnType = some .boolean) (hlocks : meth.locks = false) (hAO : zAO A s s.heap) : ∀ (σ κ : Nat → Nat → Int) (ω : Nat × (Nat → Int32) × Int32) (H : Heap) (locs : List Loc) (ls : Array Slot), WS D c h A s σ κ ω gsd23 [] H locs → lv_has ls 1 [(0, .ref (h 0))] → W p l e { frames := 14, cells := 1271, slots := 6 * 1271, locals := 300 } s m args below meth cd H locs 1218 7365 (MQ below (va_Qi (fun r (u : Int × Unit) => r = iz u.1 ∧ u.1 = 1) (fun u t => zB 0 (fun _ => 0) D (fun _ => .inr (0, [])) t.heap) A) args s 1271 (6 * 1271) A) (F0 m 863 ls []) := by
  intro σ κ ω H locs ls hW hl
  refine lv_aload_n hC.1.1 hC.1.2.1 dL_sounds_863 rfl (lv_at hl 0 rfl) ?_
  refine zi_bipush hC.1.1 hC.1.2.1 dL_sounds_864 rfl ?_
  refine d_type hst hC hW (v := 1) (by decide) ⟨by decide, by decide⟩ (by decide +kernel) dL_sounds_866 hl.1 (Nat.le_of_ble_eq_true rfl) ⟨(Nat.le_of_ble_eq_true rfl), (Nat.le_of_ble_eq_true rfl)⟩ ⟨(Nat.le_of_ble_eq_true rfl), (Nat.le_of_ble_eq_true rfl)⟩ (fun σ κ ω H locs hW => ?_)
  refine zi_const hC.1.1 hC.1.2.1 dL_sounds_869 ?_
  refine zi_icmp_ne (tgt := 975) hC.1.1 hC.1.2.1 dL_sounds_870 (by decide) (by decide) (by decide) (fun q => absurd q (by decide)) (fun _ => ?_)
  refine lv_aload_n hC.1.1 hC.1.2.1 dL_sounds_873 rfl (lv_at hl 0 rfl) ?_
  refine zi_bipush hC.1.1 hC.1.2.1 dL_sounds_874 rfl ?_
  refine d_type hst hC hW (v := 2) (by decide) ⟨by decide, by decide⟩ (by decide +kernel) dL_sounds_876 hl.1 (Nat.le_of_ble_eq_true rfl) ⟨(Nat.le_of_ble_eq_true rfl), (Nat.le_of_ble_eq_true rfl)⟩ ⟨(Nat.le_of_ble_eq_true rfl), (Nat.le_of_ble_eq_true rfl)⟩ (fun σ κ ω H locs hW => ?_)
  refine zi_const hC.1.1 hC.1.2.1 dL_sounds_879 ?_
  refine zi_icmp_ne (tgt := 975) hC.1.1 hC.1.2.1 dL_sounds_880 (by decide) (by decide) (by decide) (fun q => absurd q (by decide)) (fun _ => ?_)
  refine lv_aload_n hC.1.1 hC.1.2.1 dL_sounds_883 rfl (lv_at hl 0 rfl) ?_
  refine zi_bipush hC.1.1 hC.1.2.1 dL_sounds_884 rfl ?_
  refine d_type hst hC hW (v := 3) (by decide) ⟨by decide, by decide⟩ (by decide +kernel) dL_sounds_886 hl.1 (Nat.le_of_ble_eq_true rfl) ⟨(Nat.le_of_ble_eq_true rfl), (Nat.le_of_ble_eq_true rfl)⟩ ⟨(Nat.le_of_ble_eq_true rfl), (Nat.le_of_ble_eq_true rfl)⟩ (fun σ κ ω H locs hW => ?_)
  refine zi_const hC.1.1 hC.1.2.1 dL_sounds_889 ?_
  refine zi_icmp_ne (tgt := 975) hC.1.1 hC.1.2.1 dL_sounds_890 (by decide) (by decide) (by decide) (fun q => absurd q (by decide)) (fun _ => ?_)
  refine lv_aload_n hC.1.1 hC.1.2.1 dL_sounds_893 rfl (lv_at hl 0 rfl) ?_
  refine zi_bipush hC.1.1 hC.1.2.1 dL_sounds_894 rfl ?_
  refine d_type hst hC hW (v := 4) (by decide) ⟨by decide, by decide⟩ (by decide +kernel) dL_sounds_896 hl.1 (Nat.le_of_ble_eq_true rfl) ⟨(Nat.le_of_ble_eq_true rfl), (Nat.le_of_ble_eq_true rfl)⟩ ⟨(Nat.le_of_ble_eq_true rfl), (Nat.le_of_ble_eq_true rfl)⟩ (fun σ κ ω H locs hW => ?_)
  refine zi_const hC.1.1 hC.1.2.1 dL_sounds_899 ?_
  refine zi_icmp_ne (tgt := 975) hC.1.1 hC.1.2.1 dL_sounds_900 (by decide) (by decide) (by decide) (fun q => absurd q (by decide)) (fun _ => ?_)
  refine lv_aload_n hC.1.1 hC.1.2.1 dL_sounds_903 rfl (lv_at hl 0 rfl) ?_
  refine zi_bipush hC.1.1 hC.1.2.1 dL_sounds_904 rfl ?_
  refine d_type hst hC hW (v := 5) (by decide) ⟨by decide, by decide⟩ (by decide +kernel) dL_sounds_906 hl.1 (Nat.le_of_ble_eq_true rfl) ⟨(Nat.le_of_ble_eq_true rfl), (Nat.le_of_ble_eq_true rfl)⟩ ⟨(Nat.le_of_ble_eq_true rfl), (Nat.le_of_ble_eq_true rfl)⟩ (fun σ κ ω H locs hW => ?_)
  refine zi_const hC.1.1 hC.1.2.1 dL_sounds_909 ?_
  refine zi_icmp_ne (tgt := 975) hC.1.1 hC.1.2.1 dL_sounds_910 (by decide) (by decide) (by decide) (fun q => absurd q (by decide)) (fun _ => ?_)
  refine lv_aload_n hC.1.1 hC.1.2.1 dL_sounds_913 rfl (lv_at hl 0 rfl) ?_
  refine zi_const hC.1.1 hC.1.2.1 dL_sounds_914 ?_
  refine d_grant hst hC hW (v := 1) (d' := gsd24) (by decide) (by decide +kernel) (by decide +kernel) (deq_eq (by decide +kernel)) dL_sounds_915 hl.1 (Nat.le_of_ble_eq_true rfl) ⟨(Nat.le_of_ble_eq_true rfl), (Nat.le_of_ble_eq_true rfl)⟩ ⟨(Nat.le_of_ble_eq_true rfl), (Nat.le_of_ble_eq_true rfl)⟩ (fun σ κ ω H locs hW => ?_)
  refine zi_if_eq (tgt := 975) hC.1.1 hC.1.2.1 dL_sounds_918 (by decide) (by decide) (fun q => absurd q (by decide)) (fun _ => ?_)
  refine lv_aload_n hC.1.1 hC.1.2.1 dL_sounds_921 rfl (lv_at hl 0 rfl) ?_
  refine zi_const hC.1.1 hC.1.2.1 dL_sounds_922 ?_
  refine d_grant hst hC hW (v := 1) (d' := gsd24) (by decide) (by decide +kernel) (by decide +kernel) (deq_eq (by decide +kernel)) dL_sounds_923 hl.1 (Nat.le_of_ble_eq_true rfl) ⟨(Nat.le_of_ble_eq_true rfl), (Nat.le_of_ble_eq_true rfl)⟩ ⟨(Nat.le_of_ble_eq_true rfl), (Nat.le_of_ble_eq_true rfl)⟩ (fun σ κ ω H locs hW => ?_)
  refine zi_if_eq (tgt := 975) hC.1.1 hC.1.2.1 dL_sounds_926 (by decide) (by decide) (fun q => absurd q (by decide)) (fun _ => ?_)
  refine lv_aload_n hC.1.1 hC.1.2.1 dL_sounds_929 rfl (lv_at hl 0 rfl) ?_
  refine zi_const hC.1.1 hC.1.2.1 dL_sounds_930 ?_
  refine zi_sipush hC.1.1 hC.1.2.1 dL_sounds_931 rfl ?_
  refine zi_const hC.1.1 hC.1.2.1 dL_sounds_934 ?_
  refine zi_const hC.1.1 hC.1.2.1 dL_sounds_935 ?_
  refine w_has hst hC hW (by decide) (by decide +kernel) (by decide +kernel) (by decide +kernel) (by decide +kernel) dL_sounds_936 hl.1 (Nat.le_of_ble_eq_true rfl) ⟨(Nat.le_of_ble_eq_true rfl), (Nat.le_of_ble_eq_true rfl)⟩ ⟨(Nat.le_of_ble_eq_true rfl), (Nat.le_of_ble_eq_true rfl)⟩ (fun σ κ ω H locs hW => ?_)
  refine zi_if_eq (tgt := 975) hC.1.1 hC.1.2.1 dL_sounds_939 (by decide) (by decide) (fun q => absurd q (by decide)) (fun _ => ?_)
  refine lv_aload_n hC.1.1 hC.1.2.1 dL_sounds_942 rfl (lv_at hl 0 rfl) ?_
  refine zi_const hC.1.1 hC.1.2.1 dL_sounds_943 ?_
  refine w_drop hst hC hW (d' := gsd25) (by decide) (by decide +kernel) (deq_eq (by decide +kernel)) dL_sounds_944 hl.1 (Nat.le_of_ble_eq_true rfl) ⟨(Nat.le_of_ble_eq_true rfl), (Nat.le_of_ble_eq_true rfl)⟩ ⟨(Nat.le_of_ble_eq_true rfl), (Nat.le_of_ble_eq_true rfl)⟩ (fun σ κ ω H locs hW => ?_)
  refine zi_if_ne (tgt := 975) hC.1.1 hC.1.2.1 dL_sounds_947 (by decide) (by decide) (fun q => absurd q (by decide)) (fun _ => ?_)
  exact (gs_9 l hst hC hr hlocks hAO σ κ ω H locs ls hW hl).wide (by decide) (by decide)
set_option maxRecDepth 100000 in
set_option maxHeartbeats 4000000 in
theorem gs_7 (l : Launch) (hst : l.stackTraces = false) {p : Program} {e : Env} {s : State} {m : MethodId} {args : Array Value} {below : List Frame} {meth : Method} {cd : Code} {A : Nat → Prop} {h : Nat → Nat} {D : va_G} {c : Nat → ClassId} (hC : CX p m cd cL_sounds 1 s args h D c A) (hr : meth.sig.returnType = some .boolean) (hlocks : meth.locks = false) (hAO : zAO A s s.heap) : ∀ (σ κ : Nat → Nat → Int) (ω : Nat × (Nat → Int32) × Int32) (H : Heap) (locs : List Loc) (ls : Array Slot), WS D c h A s σ κ ω gsd19 [100, 97, 114, 107] H locs → lv_has ls 1 [(0, .ref (h 0))] → W p l e { frames := 14, cells := 1271, slots := 6 * 1271, locals := 300 } s m args below meth cd H locs 1177 7119 (MQ below (va_Qi (fun r (u : Int × Unit) => r = iz u.1 ∧ u.1 = 1) (fun u t => zB 0 (fun _ => 0) D (fun _ => .inr (0, [])) t.heap) A) args s 1271 (6 * 1271) A) (F0 m 766 ls []) := by
  intro σ κ ω H locs ls hW hl
  refine lv_aload_n hC.1.1 hC.1.2.1 dL_sounds_766 rfl (lv_at hl 0 rfl) ?_
  refine zi_const hC.1.1 hC.1.2.1 dL_sounds_767 ?_
  refine d_grant hst hC hW (v := 1) (d' := gsd19) (by decide) (by decide +kernel) (by decide +kernel) (deq_eq (by decide +kernel)) dL_sounds_768 hl.1 (Nat.le_of_ble_eq_true rfl) ⟨(Nat.le_of_ble_eq_true rfl), (Nat.le_of_ble_eq_true rfl)⟩ ⟨(Nat.le_of_ble_eq_true rfl), (Nat.le_of_ble_eq_true rfl)⟩ (fun σ κ ω H locs hW => ?_)
  refine zi_if_eq (tgt := 975) hC.1.1 hC.1.2.1 dL_sounds_771 (by decide) (by decide) (fun q => absurd q (by decide)) (fun _ => ?_)
  refine lv_aload_n hC.1.1 hC.1.2.1 dL_sounds_774 rfl (lv_at hl 0 rfl) ?_
  refine zi_bipush hC.1.1 hC.1.2.1 dL_sounds_775 rfl ?_
  refine zi_bipush hC.1.1 hC.1.2.1 dL_sounds_777 rfl ?_
  refine zi_bipush hC.1.1 hC.1.2.1 dL_sounds_779 rfl ?_
  refine zi_bipush hC.1.1 hC.1.2.1 dL_sounds_781 rfl ?_
  refine zi_const hC.1.1 hC.1.2.1 dL_sounds_783 ?_
  refine w_types4 hst hC hW (by decide) (by decide) (by decide) (by decide) dL_sounds_784 hl.1 (Nat.le_of_ble_eq_true rfl) ⟨(Nat.le_of_ble_eq_true rfl), (Nat.le_of_ble_eq_true rfl)⟩ ⟨(Nat.le_of_ble_eq_true rfl), (Nat.le_of_ble_eq_true rfl)⟩ (fun σ κ ω H locs hW => ?_)
  refine zi_if_eq (tgt := 975) hC.1.1 hC.1.2.1 dL_sounds_787 (by decide) (by decide) (fun q => absurd q (by decide)) (fun _ => ?_)
  refine lv_aload_n hC.1.1 hC.1.2.1 dL_sounds_790 rfl (lv_at hl 0 rfl) ?_
  refine zi_const hC.1.1 hC.1.2.1 dL_sounds_791 ?_
  refine d_grant hst hC hW (v := 1) (d' := gsd20) (by decide) (by decide +kernel) (by decide +kernel) (deq_eq (by decide +kernel)) dL_sounds_792 hl.1 (Nat.le_of_ble_eq_true rfl) ⟨(Nat.le_of_ble_eq_true rfl), (Nat.le_of_ble_eq_true rfl)⟩ ⟨(Nat.le_of_ble_eq_true rfl), (Nat.le_of_ble_eq_true rfl)⟩ (fun σ κ ω H locs hW => ?_)
  refine zi_if_eq (tgt := 975) hC.1.1 hC.1.2.1 dL_sounds_795 (by decide) (by decide) (fun q => absurd q (by decide)) (fun _ => ?_)
  refine lv_aload_n hC.1.1 hC.1.2.1 dL_sounds_798 rfl (lv_at hl 0 rfl) ?_
  refine zi_const hC.1.1 hC.1.2.1 dL_sounds_799 ?_
  refine d_grant hst hC hW (v := 1) (d' := gsd20) (by decide) (by decide +kernel) (by decide +kernel) (deq_eq (by decide +kernel)) dL_sounds_800 hl.1 (Nat.le_of_ble_eq_true rfl) ⟨(Nat.le_of_ble_eq_true rfl), (Nat.le_of_ble_eq_true rfl)⟩ ⟨(Nat.le_of_ble_eq_true rfl), (Nat.le_of_ble_eq_true rfl)⟩ (fun σ κ ω H locs hW => ?_)
  refine zi_if_eq (tgt := 975) hC.1.1 hC.1.2.1 dL_sounds_803 (by decide) (by decide) (fun q => absurd q (by decide)) (fun _ => ?_)
  refine lv_aload_n hC.1.1 hC.1.2.1 dL_sounds_806 rfl (lv_at hl 0 rfl) ?_
  refine zi_const hC.1.1 hC.1.2.1 dL_sounds_807 ?_
  refine zi_const hC.1.1 hC.1.2.1 dL_sounds_808 ?_
  refine zi_const hC.1.1 hC.1.2.1 dL_sounds_809 ?_
  refine zi_const hC.1.1 hC.1.2.1 dL_sounds_810 ?_
  refine w_has hst hC hW (by decide) (by decide +kernel) (by decide +kernel) (by decide +kernel) (by decide +kernel) dL_sounds_811 hl.1 (Nat.le_of_ble_eq_true rfl) ⟨(Nat.le_of_ble_eq_true rfl), (Nat.le_of_ble_eq_true rfl)⟩ ⟨(Nat.le_of_ble_eq_true rfl), (Nat.le_of_ble_eq_true rfl)⟩ (fun σ κ ω H locs hW => ?_)
  refine zi_if_eq (tgt := 975) hC.1.1 hC.1.2.1 dL_sounds_814 (by decide) (by decide) (fun q => absurd q (by decide)) (fun _ => ?_)
  refine lv_aload_n hC.1.1 hC.1.2.1 dL_sounds_817 rfl (lv_at hl 0 rfl) ?_
  refine zi_bipush hC.1.1 hC.1.2.1 dL_sounds_818 rfl ?_
  refine d_startSet hst hC hW (v := 2) (d' := gsd21) (by decide) (by decide +kernel) (by decide +kernel) (deq_eq (by decide +kernel)) dL_sounds_820 hl.1 (Nat.le_of_ble_eq_true rfl) ⟨(Nat.le_of_ble_eq_true rfl), (Nat.le_of_ble_eq_true rfl)⟩ ⟨(Nat.le_of_ble_eq_true rfl), (Nat.le_of_ble_eq_true rfl)⟩ (fun σ κ ω H locs hW => ?_)
  refine zi_const hC.1.1 hC.1.2.1 dL_sounds_823 ?_
  refine zi_icmp_ne (tgt := 975) hC.1.1 hC.1.2.1 dL_sounds_824 (by decide) (by decide) (by decide) (fun q => absurd q (by decide)) (fun _ => ?_)
  refine lv_aload_n hC.1.1 hC.1.2.1 dL_sounds_827 rfl (lv_at hl 0 rfl) ?_
  refine zi_bipush hC.1.1 hC.1.2.1 dL_sounds_828 rfl ?_
  refine d_startSet hst hC hW (v := 3) (d' := gsd22) (by decide) (by decide +kernel) (by decide +kernel) (deq_eq (by decide +kernel)) dL_sounds_830 hl.1 (Nat.le_of_ble_eq_true rfl) ⟨(Nat.le_of_ble_eq_true rfl), (Nat.le_of_ble_eq_true rfl)⟩ ⟨(Nat.le_of_ble_eq_true rfl), (Nat.le_of_ble_eq_true rfl)⟩ (fun σ κ ω H locs hW => ?_)
  refine zi_const hC.1.1 hC.1.2.1 dL_sounds_833 ?_
  refine zi_icmp_ne (tgt := 975) hC.1.1 hC.1.2.1 dL_sounds_834 (by decide) (by decide) (by decide) (fun q => absurd q (by decide)) (fun _ => ?_)
  refine lv_aload_n hC.1.1 hC.1.2.1 dL_sounds_837 rfl (lv_at hl 0 rfl) ?_
  refine zi_const hC.1.1 hC.1.2.1 dL_sounds_838 ?_
  refine zi_bipush hC.1.1 hC.1.2.1 dL_sounds_839 rfl ?_
  refine zi_const hC.1.1 hC.1.2.1 dL_sounds_841 ?_
  refine zi_const hC.1.1 hC.1.2.1 dL_sounds_842 ?_
  refine zi_sipush hC.1.1 hC.1.2.1 dL_sounds_843 rfl ?_
  refine zi_const hC.1.1 hC.1.2.1 dL_sounds_846 ?_
  refine zi_const hC.1.1 hC.1.2.1 dL_sounds_847 ?_
  refine d_plan hst hC hW (v := 2) (d' := gsd23) (by decide) (by decide) (by decide) (by decide) (by decide) (by decide) (by decide) (by decide +kernel) (by decide +kernel) (deq_eq (by decide +kernel)) dL_sounds_848 hl.1 (Nat.le_of_ble_eq_true rfl) ⟨(Nat.le_of_ble_eq_true rfl), (Nat.le_of_ble_eq_true rfl)⟩ ⟨(Nat.le_of_ble_eq_true rfl), (Nat.le_of_ble_eq_true rfl)⟩ (fun σ κ ω H locs hW => ?_)
  refine zi_const hC.1.1 hC.1.2.1 dL_sounds_851 ?_
  refine zi_icmp_ne (tgt := 975) hC.1.1 hC.1.2.1 dL_sounds_852 (by decide) (by decide) (by decide) (fun q => absurd q (by decide)) (fun _ => ?_)
  refine lv_aload_n hC.1.1 hC.1.2.1 dL_sounds_855 rfl (lv_at hl 0 rfl) ?_
  refine d_wipe hC hW (v := 4) rfl dL_sounds_856 hl.1 (Nat.le_of_ble_eq_true rfl) ⟨(Nat.le_of_ble_eq_true rfl), (Nat.le_of_ble_eq_true rfl)⟩ ⟨(Nat.le_of_ble_eq_true rfl), (Nat.le_of_ble_eq_true rfl)⟩ (fun σ κ ω H locs hW => ?_)
  refine zi_const hC.1.1 hC.1.2.1 dL_sounds_859 ?_
  refine zi_icmp_ne (tgt := 975) hC.1.1 hC.1.2.1 dL_sounds_860 (by decide) (by decide) (by decide) (fun q => absurd q (by decide)) (fun _ => ?_)
  exact (gs_8 l hst hC hr hlocks hAO σ κ ω H locs ls hW hl).wide (by decide) (by decide)
set_option maxRecDepth 100000 in
set_option maxHeartbeats 4000000 in
theorem gs_6 (l : Launch) (hst : l.stackTraces = false) {p : Program} {e : Env} {s : State} {m : MethodId} {args : Array Value} {below : List Frame} {meth : Method} {cd : Code} {A : Nat → Prop} {h : Nat → Nat} {D : va_G} {c : Nat → ClassId} (hC : CX p m cd cL_sounds 1 s args h D c A) (hr : meth.sig.returnType = some .boolean) (hlocks : meth.locks = false) (hAO : zAO A s s.heap) : ∀ (σ κ : Nat → Nat → Int) (ω : Nat × (Nat → Int32) × Int32) (H : Heap) (locs : List Loc) (ls : Array Slot), WS D c h A s σ κ ω gsd16 [108, 105, 103, 104, 116] H locs → lv_has ls 1 [(0, .ref (h 0))] → W p l e { frames := 14, cells := 1271, slots := 6 * 1271, locals := 300 } s m args below meth cd H locs 241 1503 (MQ below (va_Qi (fun r (u : Int × Unit) => r = iz u.1 ∧ u.1 = 1) (fun u t => zB 0 (fun _ => 0) D (fun _ => .inr (0, [])) t.heap) A) args s 1271 (6 * 1271) A) (F0 m 658 ls []) := by
  intro σ κ ω H locs ls hW hl
  refine lv_aload_n hC.1.1 hC.1.2.1 dL_sounds_658 rfl (lv_at hl 0 rfl) ?_
  refine zi_const hC.1.1 hC.1.2.1 dL_sounds_659 ?_
  refine zi_bipush hC.1.1 hC.1.2.1 dL_sounds_660 rfl ?_
  refine zi_bipush hC.1.1 hC.1.2.1 dL_sounds_662 rfl ?_
  refine zi_const hC.1.1 hC.1.2.1 dL_sounds_664 ?_
  refine w_has hst hC hW (by decide) (by decide +kernel) (by decide +kernel) (by decide +kernel) (by decide +kernel) dL_sounds_665 hl.1 (Nat.le_of_ble_eq_true rfl) ⟨(Nat.le_of_ble_eq_true rfl), (Nat.le_of_ble_eq_true rfl)⟩ ⟨(Nat.le_of_ble_eq_true rfl), (Nat.le_of_ble_eq_true rfl)⟩ (fun σ κ ω H locs hW => ?_)
  refine zi_if_eq (tgt := 724) hC.1.1 hC.1.2.1 dL_sounds_668 (by decide) (by decide) (fun q => absurd q (by decide)) (fun _ => ?_)
  refine lv_aload_n hC.1.1 hC.1.2.1 dL_sounds_671 rfl (lv_at hl 0 rfl) ?_
  refine zi_bipush hC.1.1 hC.1.2.1 dL_sounds_672 rfl ?_
  refine d_type hst hC hW (v := 6) (by decide) ⟨by decide, by decide⟩ (by decide +kernel) dL_sounds_674 hl.1 (Nat.le_of_ble_eq_true rfl) ⟨(Nat.le_of_ble_eq_true rfl), (Nat.le_of_ble_eq_true rfl)⟩ ⟨(Nat.le_of_ble_eq_true rfl), (Nat.le_of_ble_eq_true rfl)⟩ (fun σ κ ω H locs hW => ?_)
  refine zi_bipush hC.1.1 hC.1.2.1 dL_sounds_677 rfl ?_
  refine zi_icmp_ne (tgt := 724) hC.1.1 hC.1.2.1 dL_sounds_679 (by decide) (by decide) (by decide) (fun q => absurd q (by decide)) (fun _ => ?_)
  refine lv_aload_n hC.1.1 hC.1.2.1 dL_sounds_682 rfl (lv_at hl 0 rfl) ?_
  refine zi_bipush hC.1.1 hC.1.2.1 dL_sounds_683 rfl ?_
  refine zi_const hC.1.1 hC.1.2.1 dL_sounds_685 ?_
  refine zi_const hC.1.1 hC.1.2.1 dL_sounds_686 ?_
  refine zi_const hC.1.1 hC.1.2.1 dL_sounds_687 ?_
  refine hx_act7_2 hst hC hW.1 hW.2.1 hW.2.2.1.1 (by decide) (WL_6 hW.2.2.2) (WL_by hW.2.2.2) ⟨(by rw [ES_na0 hW.2.2.1]; decide), Or.inr (fun i hi => by rw [TW_is hW.2.2.2 hi]; decide +kernel)⟩ dL_sounds_688 hl.1 (Nat.le_of_ble_eq_true rfl) ⟨(Nat.le_of_ble_eq_true rfl), (Nat.le_of_ble_eq_true rfl)⟩ ⟨(Nat.le_of_ble_eq_true rfl), (Nat.le_of_ble_eq_true rfl)⟩ (fun H locs hP hS => ?_)
  have hW : WS D c h A s σ κ ω gsd16 [108, 105, 103, 104, 116, 115] H locs := ⟨hP, hS, hW.2.2⟩
  refine zi_bipush hC.1.1 hC.1.2.1 dL_sounds_691 rfl ?_
  refine zi_icmp_ne (tgt := 724) hC.1.1 hC.1.2.1 dL_sounds_693 (by decide) (by decide) (by decide) (fun q => absurd q (by decide)) (fun _ => ?_)
  refine lv_aload_n hC.1.1 hC.1.2.1 dL_sounds_696 rfl (lv_at hl 0 rfl) ?_
  refine zi_bipush hC.1.1 hC.1.2.1 dL_sounds_697 rfl ?_
  refine hx_type_2 hst hC hW.1 hW.2.1 hW.2.2.1.1 (by decide) (WL_6 hW.2.2.2) ⟨by decide, (WL_n hW.2.2.2).trans rfl⟩ dL_sounds_699 hl.1 (Nat.le_of_ble_eq_true rfl) ⟨(Nat.le_of_ble_eq_true rfl), (Nat.le_of_ble_eq_true rfl)⟩ ⟨(Nat.le_of_ble_eq_true rfl), (Nat.le_of_ble_eq_true rfl)⟩ (fun H locs hP hS => ?_)
  have hW : WS D c h A s σ κ ω gsd16 [108, 105, 103, 104, 116, 115] H locs := ⟨hP, hS, hW.2.2⟩
  refine zi_bipush hC.1.1 hC.1.2.1 dL_sounds_702 rfl ?_
  refine zi_icmp_ne (tgt := 724) hC.1.1 hC.1.2.1 dL_sounds_704 (by decide) (by decide) (by decide) (fun q => absurd q (by decide)) (fun _ => ?_)
  refine lv_aload_n hC.1.1 hC.1.2.1 dL_sounds_707 rfl (lv_at hl 0 rfl) ?_
  refine d_wipe hC hW (v := 6) rfl dL_sounds_708 hl.1 (Nat.le_of_ble_eq_true rfl) ⟨(Nat.le_of_ble_eq_true rfl), (Nat.le_of_ble_eq_true rfl)⟩ ⟨(Nat.le_of_ble_eq_true rfl), (Nat.le_of_ble_eq_true rfl)⟩ (fun σ κ ω H locs hW => ?_)
  refine zi_bipush hC.1.1 hC.1.2.1 dL_sounds_711 rfl ?_
  refine zi_icmp_ne (tgt := 724) hC.1.1 hC.1.2.1 dL_sounds_713 (by decide) (by decide) (by decide) (fun q => absurd q (by decide)) (fun _ => ?_)
  refine lv_aload_n hC.1.1 hC.1.2.1 dL_sounds_716 rfl (lv_at hl 0 rfl) ?_
  refine zi_const hC.1.1 hC.1.2.1 dL_sounds_717 ?_
  refine w_refuses hst hC hW (by decide +kernel) (by decide +kernel) (by decide +kernel) dL_sounds_718 hl.1 (Nat.le_of_ble_eq_true rfl) ⟨(Nat.le_of_ble_eq_true rfl), (Nat.le_of_ble_eq_true rfl)⟩ ⟨(Nat.le_of_ble_eq_true rfl), (Nat.le_of_ble_eq_true rfl)⟩ (fun σ κ ω H locs hW => ?_)
  refine zi_if_ne (tgt := 726) hC.1.1 hC.1.2.1 dL_sounds_721 (by decide) (by decide) (fun _ => ?_) (fun q => absurd q (by decide))
  refine lv_aload_n hC.1.1 hC.1.2.1 dL_sounds_726 rfl (lv_at hl 0 rfl) ?_
  refine zi_const hC.1.1 hC.1.2.1 dL_sounds_727 ?_
  refine zi_const hC.1.1 hC.1.2.1 dL_sounds_728 ?_
  refine zi_const hC.1.1 hC.1.2.1 dL_sounds_729 ?_
  refine zi_const hC.1.1 hC.1.2.1 dL_sounds_730 ?_
  refine zi_bipush hC.1.1 hC.1.2.1 dL_sounds_731 rfl ?_
  refine zi_const hC.1.1 hC.1.2.1 dL_sounds_733 ?_
  refine zi_const hC.1.1 hC.1.2.1 dL_sounds_734 ?_
  refine d_plan hst hC hW (v := 1) (d' := gsd18) (by decide) (by decide) (by decide) (by decide) (by decide) (by decide) (by decide) (by decide +kernel) (by decide +kernel) (deq_eq (by decide +kernel)) dL_sounds_735 hl.1 (Nat.le_of_ble_eq_true rfl) ⟨(Nat.le_of_ble_eq_true rfl), (Nat.le_of_ble_eq_true rfl)⟩ ⟨(Nat.le_of_ble_eq_true rfl), (Nat.le_of_ble_eq_true rfl)⟩ (fun σ κ ω H locs hW => ?_)
  refine zi_const hC.1.1 hC.1.2.1 dL_sounds_738 ?_
  refine zi_icmp_ne (tgt := 975) hC.1.1 hC.1.2.1 dL_sounds_739 (by decide) (by decide) (by decide) (fun q => absurd q (by decide)) (fun _ => ?_)
  refine lv_aload_n hC.1.1 hC.1.2.1 dL_sounds_742 rfl (lv_at hl 0 rfl) ?_
  refine zi_bipush hC.1.1 hC.1.2.1 dL_sounds_743 rfl ?_
  refine zi_bipush hC.1.1 hC.1.2.1 dL_sounds_745 rfl ?_
  refine zi_bipush hC.1.1 hC.1.2.1 dL_sounds_747 rfl ?_
  refine zi_bipush hC.1.1 hC.1.2.1 dL_sounds_749 rfl ?_
  refine zi_const hC.1.1 hC.1.2.1 dL_sounds_751 ?_
  refine w_types4 hst hC hW (by decide) (by decide) (by decide) (by decide) dL_sounds_752 hl.1 (Nat.le_of_ble_eq_true rfl) ⟨(Nat.le_of_ble_eq_true rfl), (Nat.le_of_ble_eq_true rfl)⟩ ⟨(Nat.le_of_ble_eq_true rfl), (Nat.le_of_ble_eq_true rfl)⟩ (fun σ κ ω H locs hW => ?_)
  refine zi_if_eq (tgt := 975) hC.1.1 hC.1.2.1 dL_sounds_755 (by decide) (by decide) (fun q => absurd q (by decide)) (fun _ => ?_)
  refine lv_aload_n hC.1.1 hC.1.2.1 dL_sounds_758 rfl (lv_at hl 0 rfl) ?_
  refine zi_const hC.1.1 hC.1.2.1 dL_sounds_759 ?_
  refine d_grant hst hC hW (v := 1) (d' := gsd19) (by decide) (by decide +kernel) (by decide +kernel) (deq_eq (by decide +kernel)) dL_sounds_760 hl.1 (Nat.le_of_ble_eq_true rfl) ⟨(Nat.le_of_ble_eq_true rfl), (Nat.le_of_ble_eq_true rfl)⟩ ⟨(Nat.le_of_ble_eq_true rfl), (Nat.le_of_ble_eq_true rfl)⟩ (fun σ κ ω H locs hW => ?_)
  refine zi_if_eq (tgt := 975) hC.1.1 hC.1.2.1 dL_sounds_763 (by decide) (by decide) (fun q => absurd q (by decide)) (fun _ => ?_)
  exact (gs_7 l hst hC hr hlocks hAO σ κ ω H locs ls hW hl).wide (by decide) (by decide)
set_option maxRecDepth 100000 in
set_option maxHeartbeats 4000000 in
theorem gs_5 (l : Launch) (hst : l.stackTraces = false) {p : Program} {e : Env} {s : State} {m : MethodId} {args : Array Value} {below : List Frame} {meth : Method} {cd : Code} {A : Nat → Prop} {h : Nat → Nat} {D : va_G} {c : Nat → ClassId} (hC : CX p m cd cL_sounds 1 s args h D c A) (hr : meth.sig.returnType = some .boolean) (hlocks : meth.locks = false) (hAO : zAO A s s.heap) : ∀ (σ κ : Nat → Nat → Int) (ω : Nat × (Nat → Int32) × Int32) (H : Heap) (locs : List Loc) (ls : Array Slot), WS D c h A s σ κ ω gsd17 [] H locs → lv_has ls 1 [(0, .ref (h 0))] → W p l e { frames := 14, cells := 1271, slots := 6 * 1271, locals := 300 } s m args below meth cd H locs 210 1317 (MQ below (va_Qi (fun r (u : Int × Unit) => r = iz u.1 ∧ u.1 = 1) (fun u t => zB 0 (fun _ => 0) D (fun _ => .inr (0, [])) t.heap) A) args s 1271 (6 * 1271) A) (F0 m 565 ls []) := by
  intro σ κ ω H locs ls hW hl
  refine lv_aload_n hC.1.1 hC.1.2.1 dL_sounds_565 rfl (lv_at hl 0 rfl) ?_
  refine zi_bipush hC.1.1 hC.1.2.1 dL_sounds_566 rfl ?_
  refine d_type hst hC hW (v := 1) (by decide) ⟨by decide, by decide⟩ (by decide +kernel) dL_sounds_568 hl.1 (Nat.le_of_ble_eq_true rfl) ⟨(Nat.le_of_ble_eq_true rfl), (Nat.le_of_ble_eq_true rfl)⟩ ⟨(Nat.le_of_ble_eq_true rfl), (Nat.le_of_ble_eq_true rfl)⟩ (fun σ κ ω H locs hW => ?_)
  refine zi_const hC.1.1 hC.1.2.1 dL_sounds_571 ?_
  refine zi_icmp_ne (tgt := 724) hC.1.1 hC.1.2.1 dL_sounds_572 (by decide) (by decide) (by decide) (fun q => absurd q (by decide)) (fun _ => ?_)
  refine lv_aload_n hC.1.1 hC.1.2.1 dL_sounds_575 rfl (lv_at hl 0 rfl) ?_
  refine zi_bipush hC.1.1 hC.1.2.1 dL_sounds_576 rfl ?_
  refine d_type hst hC hW (v := 2) (by decide) ⟨by decide, by decide⟩ (by decide +kernel) dL_sounds_578 hl.1 (Nat.le_of_ble_eq_true rfl) ⟨(Nat.le_of_ble_eq_true rfl), (Nat.le_of_ble_eq_true rfl)⟩ ⟨(Nat.le_of_ble_eq_true rfl), (Nat.le_of_ble_eq_true rfl)⟩ (fun σ κ ω H locs hW => ?_)
  refine zi_const hC.1.1 hC.1.2.1 dL_sounds_581 ?_
  refine zi_icmp_ne (tgt := 724) hC.1.1 hC.1.2.1 dL_sounds_582 (by decide) (by decide) (by decide) (fun q => absurd q (by decide)) (fun _ => ?_)
  refine lv_aload_n hC.1.1 hC.1.2.1 dL_sounds_585 rfl (lv_at hl 0 rfl) ?_
  refine zi_bipush hC.1.1 hC.1.2.1 dL_sounds_586 rfl ?_
  refine d_type hst hC hW (v := 3) (by decide) ⟨by decide, by decide⟩ (by decide +kernel) dL_sounds_588 hl.1 (Nat.le_of_ble_eq_true rfl) ⟨(Nat.le_of_ble_eq_true rfl), (Nat.le_of_ble_eq_true rfl)⟩ ⟨(Nat.le_of_ble_eq_true rfl), (Nat.le_of_ble_eq_true rfl)⟩ (fun σ κ ω H locs hW => ?_)
  refine zi_const hC.1.1 hC.1.2.1 dL_sounds_591 ?_
  refine zi_icmp_ne (tgt := 724) hC.1.1 hC.1.2.1 dL_sounds_592 (by decide) (by decide) (by decide) (fun q => absurd q (by decide)) (fun _ => ?_)
  refine lv_aload_n hC.1.1 hC.1.2.1 dL_sounds_595 rfl (lv_at hl 0 rfl) ?_
  refine zi_bipush hC.1.1 hC.1.2.1 dL_sounds_596 rfl ?_
  refine d_type hst hC hW (v := 4) (by decide) ⟨by decide, by decide⟩ (by decide +kernel) dL_sounds_598 hl.1 (Nat.le_of_ble_eq_true rfl) ⟨(Nat.le_of_ble_eq_true rfl), (Nat.le_of_ble_eq_true rfl)⟩ ⟨(Nat.le_of_ble_eq_true rfl), (Nat.le_of_ble_eq_true rfl)⟩ (fun σ κ ω H locs hW => ?_)
  refine zi_const hC.1.1 hC.1.2.1 dL_sounds_601 ?_
  refine zi_icmp_ne (tgt := 724) hC.1.1 hC.1.2.1 dL_sounds_602 (by decide) (by decide) (by decide) (fun q => absurd q (by decide)) (fun _ => ?_)
  refine lv_aload_n hC.1.1 hC.1.2.1 dL_sounds_605 rfl (lv_at hl 0 rfl) ?_
  refine zi_bipush hC.1.1 hC.1.2.1 dL_sounds_606 rfl ?_
  refine zi_const hC.1.1 hC.1.2.1 dL_sounds_608 ?_
  refine zi_const hC.1.1 hC.1.2.1 dL_sounds_609 ?_
  refine zi_const hC.1.1 hC.1.2.1 dL_sounds_610 ?_
  refine hx_act7_2 hst hC hW.1 hW.2.1 hW.2.2.1.1 (by decide) (WL_6 hW.2.2.2) (WL_by hW.2.2.2) ⟨(by rw [ES_na0 hW.2.2.1]; decide), Or.inr (fun i hi => by rw [TW_is hW.2.2.2 hi]; decide +kernel)⟩ dL_sounds_611 hl.1 (Nat.le_of_ble_eq_true rfl) ⟨(Nat.le_of_ble_eq_true rfl), (Nat.le_of_ble_eq_true rfl)⟩ ⟨(Nat.le_of_ble_eq_true rfl), (Nat.le_of_ble_eq_true rfl)⟩ (fun H locs hP hS => ?_)
  have hW : WS D c h A s σ κ ω gsd17 [108, 105, 103, 104] H locs := ⟨hP, hS, hW.2.2⟩
  refine zi_bipush hC.1.1 hC.1.2.1 dL_sounds_614 rfl ?_
  refine zi_icmp_ne (tgt := 724) hC.1.1 hC.1.2.1 dL_sounds_616 (by decide) (by decide) (by decide) (fun q => absurd q (by decide)) (fun _ => ?_)
  refine lv_aload_n hC.1.1 hC.1.2.1 dL_sounds_619 rfl (lv_at hl 0 rfl) ?_
  refine zi_bipush hC.1.1 hC.1.2.1 dL_sounds_620 rfl ?_
  refine d_type hst hC hW (v := 5) (by decide) ⟨by decide, by decide⟩ (by decide +kernel) dL_sounds_622 hl.1 (Nat.le_of_ble_eq_true rfl) ⟨(Nat.le_of_ble_eq_true rfl), (Nat.le_of_ble_eq_true rfl)⟩ ⟨(Nat.le_of_ble_eq_true rfl), (Nat.le_of_ble_eq_true rfl)⟩ (fun σ κ ω H locs hW => ?_)
  refine zi_const hC.1.1 hC.1.2.1 dL_sounds_625 ?_
  refine zi_icmp_ne (tgt := 724) hC.1.1 hC.1.2.1 dL_sounds_626 (by decide) (by decide) (by decide) (fun q => absurd q (by decide)) (fun _ => ?_)
  refine lv_aload_n hC.1.1 hC.1.2.1 dL_sounds_629 rfl (lv_at hl 0 rfl) ?_
  refine zi_const hC.1.1 hC.1.2.1 dL_sounds_630 ?_
  refine d_grant hst hC hW (v := 1) (d' := gsd16) (by decide) (by decide +kernel) (by decide +kernel) (deq_eq (by decide +kernel)) dL_sounds_631 hl.1 (Nat.le_of_ble_eq_true rfl) ⟨(Nat.le_of_ble_eq_true rfl), (Nat.le_of_ble_eq_true rfl)⟩ ⟨(Nat.le_of_ble_eq_true rfl), (Nat.le_of_ble_eq_true rfl)⟩ (fun σ κ ω H locs hW => ?_)
  refine zi_if_eq (tgt := 724) hC.1.1 hC.1.2.1 dL_sounds_634 (by decide) (by decide) (fun q => absurd q (by decide)) (fun _ => ?_)
  refine lv_aload_n hC.1.1 hC.1.2.1 dL_sounds_637 rfl (lv_at hl 0 rfl) ?_
  refine zi_const hC.1.1 hC.1.2.1 dL_sounds_638 ?_
  refine zi_bipush hC.1.1 hC.1.2.1 dL_sounds_639 rfl ?_
  refine zi_bipush hC.1.1 hC.1.2.1 dL_sounds_641 rfl ?_
  refine zi_const hC.1.1 hC.1.2.1 dL_sounds_643 ?_
  refine w_has hst hC hW (by decide) (by decide +kernel) (by decide +kernel) (by decide +kernel) (by decide +kernel) dL_sounds_644 hl.1 (Nat.le_of_ble_eq_true rfl) ⟨(Nat.le_of_ble_eq_true rfl), (Nat.le_of_ble_eq_true rfl)⟩ ⟨(Nat.le_of_ble_eq_true rfl), (Nat.le_of_ble_eq_true rfl)⟩ (fun σ κ ω H locs hW => ?_)
  refine zi_if_eq (tgt := 724) hC.1.1 hC.1.2.1 dL_sounds_647 (by decide) (by decide) (fun q => absurd q (by decide)) (fun _ => ?_)
  refine lv_aload_n hC.1.1 hC.1.2.1 dL_sounds_650 rfl (lv_at hl 0 rfl) ?_
  refine zi_const hC.1.1 hC.1.2.1 dL_sounds_651 ?_
  refine d_grant hst hC hW (v := 0) (d' := gsd16) (by decide) (by decide +kernel) (by decide +kernel) (deq_eq (by decide +kernel)) dL_sounds_652 hl.1 (Nat.le_of_ble_eq_true rfl) ⟨(Nat.le_of_ble_eq_true rfl), (Nat.le_of_ble_eq_true rfl)⟩ ⟨(Nat.le_of_ble_eq_true rfl), (Nat.le_of_ble_eq_true rfl)⟩ (fun σ κ ω H locs hW => ?_)
  refine zi_if_ne (tgt := 724) hC.1.1 hC.1.2.1 dL_sounds_655 (by decide) (by decide) (fun q => absurd q (by decide)) (fun _ => ?_)
  exact (gs_6 l hst hC hr hlocks hAO σ κ ω H locs ls hW hl).wide (by decide) (by decide)
set_option maxRecDepth 100000 in
set_option maxHeartbeats 4000000 in
theorem gs_4 (l : Launch) (hst : l.stackTraces = false) {p : Program} {e : Env} {s : State} {m : MethodId} {args : Array Value} {below : List Frame} {meth : Method} {cd : Code} {A : Nat → Prop} {h : Nat → Nat} {D : va_G} {c : Nat → ClassId} (hC : CX p m cd cL_sounds 1 s args h D c A) (hr : meth.sig.returnType = some .boolean) (hlocks : meth.locks = false) (hAO : zAO A s s.heap) : ∀ (σ κ : Nat → Nat → Int) (ω : Nat × (Nat → Int32) × Int32) (H : Heap) (locs : List Loc) (ls : Array Slot), WS D c h A s σ κ ω gsd15 [108, 111, 117, 100] H locs → lv_has ls 1 [(0, .ref (h 0))] → W p l e { frames := 14, cells := 1271, slots := 6 * 1271, locals := 300 } s m args below meth cd H locs 167 1059 (MQ below (va_Qi (fun r (u : Int × Unit) => r = iz u.1 ∧ u.1 = 1) (fun u t => zB 0 (fun _ => 0) D (fun _ => .inr (0, [])) t.heap) A) args s 1271 (6 * 1271) A) (F0 m 468 ls []) := by
  intro σ κ ω H locs ls hW hl
  refine lv_aload_n hC.1.1 hC.1.2.1 dL_sounds_468 rfl (lv_at hl 0 rfl) ?_
  refine zi_bipush hC.1.1 hC.1.2.1 dL_sounds_469 rfl ?_
  refine zi_bipush hC.1.1 hC.1.2.1 dL_sounds_471 rfl ?_
  refine zi_bipush hC.1.1 hC.1.2.1 dL_sounds_473 rfl ?_
  refine zi_bipush hC.1.1 hC.1.2.1 dL_sounds_475 rfl ?_
  refine zi_const hC.1.1 hC.1.2.1 dL_sounds_477 ?_
  refine w_types4 hst hC hW (by decide) (by decide) (by decide) (by decide) dL_sounds_478 hl.1 (Nat.le_of_ble_eq_true rfl) ⟨(Nat.le_of_ble_eq_true rfl), (Nat.le_of_ble_eq_true rfl)⟩ ⟨(Nat.le_of_ble_eq_true rfl), (Nat.le_of_ble_eq_true rfl)⟩ (fun σ κ ω H locs hW => ?_)
  refine zi_if_eq (tgt := 724) hC.1.1 hC.1.2.1 dL_sounds_481 (by decide) (by decide) (fun q => absurd q (by decide)) (fun _ => ?_)
  refine lv_aload_n hC.1.1 hC.1.2.1 dL_sounds_484 rfl (lv_at hl 0 rfl) ?_
  refine zi_const hC.1.1 hC.1.2.1 dL_sounds_485 ?_
  refine d_grant hst hC hW (v := 1) (d' := gsd14) (by decide) (by decide +kernel) (by decide +kernel) (deq_eq (by decide +kernel)) dL_sounds_486 hl.1 (Nat.le_of_ble_eq_true rfl) ⟨(Nat.le_of_ble_eq_true rfl), (Nat.le_of_ble_eq_true rfl)⟩ ⟨(Nat.le_of_ble_eq_true rfl), (Nat.le_of_ble_eq_true rfl)⟩ (fun σ κ ω H locs hW => ?_)
  refine zi_if_eq (tgt := 724) hC.1.1 hC.1.2.1 dL_sounds_489 (by decide) (by decide) (fun q => absurd q (by decide)) (fun _ => ?_)
  refine lv_aload_n hC.1.1 hC.1.2.1 dL_sounds_492 rfl (lv_at hl 0 rfl) ?_
  refine zi_const hC.1.1 hC.1.2.1 dL_sounds_493 ?_
  refine d_grant hst hC hW (v := 1) (d' := gsd16) (by decide) (by decide +kernel) (by decide +kernel) (deq_eq (by decide +kernel)) dL_sounds_494 hl.1 (Nat.le_of_ble_eq_true rfl) ⟨(Nat.le_of_ble_eq_true rfl), (Nat.le_of_ble_eq_true rfl)⟩ ⟨(Nat.le_of_ble_eq_true rfl), (Nat.le_of_ble_eq_true rfl)⟩ (fun σ κ ω H locs hW => ?_)
  refine zi_if_eq (tgt := 724) hC.1.1 hC.1.2.1 dL_sounds_497 (by decide) (by decide) (fun q => absurd q (by decide)) (fun _ => ?_)
  refine lv_aload_n hC.1.1 hC.1.2.1 dL_sounds_500 rfl (lv_at hl 0 rfl) ?_
  refine zi_const hC.1.1 hC.1.2.1 dL_sounds_501 ?_
  refine zi_bipush hC.1.1 hC.1.2.1 dL_sounds_502 rfl ?_
  refine zi_bipush hC.1.1 hC.1.2.1 dL_sounds_504 rfl ?_
  refine zi_const hC.1.1 hC.1.2.1 dL_sounds_506 ?_
  refine w_has hst hC hW (by decide) (by decide +kernel) (by decide +kernel) (by decide +kernel) (by decide +kernel) dL_sounds_507 hl.1 (Nat.le_of_ble_eq_true rfl) ⟨(Nat.le_of_ble_eq_true rfl), (Nat.le_of_ble_eq_true rfl)⟩ ⟨(Nat.le_of_ble_eq_true rfl), (Nat.le_of_ble_eq_true rfl)⟩ (fun σ κ ω H locs hW => ?_)
  refine zi_if_eq (tgt := 724) hC.1.1 hC.1.2.1 dL_sounds_510 (by decide) (by decide) (fun q => absurd q (by decide)) (fun _ => ?_)
  refine lv_aload_n hC.1.1 hC.1.2.1 dL_sounds_513 rfl (lv_at hl 0 rfl) ?_
  refine zi_bipush hC.1.1 hC.1.2.1 dL_sounds_514 rfl ?_
  refine zi_bipush hC.1.1 hC.1.2.1 dL_sounds_516 rfl ?_
  refine zi_bipush hC.1.1 hC.1.2.1 dL_sounds_518 rfl ?_
  refine zi_bipush hC.1.1 hC.1.2.1 dL_sounds_520 rfl ?_
  refine zi_const hC.1.1 hC.1.2.1 dL_sounds_522 ?_
  refine w_types4 hst hC hW (by decide) (by decide) (by decide) (by decide) dL_sounds_523 hl.1 (Nat.le_of_ble_eq_true rfl) ⟨(Nat.le_of_ble_eq_true rfl), (Nat.le_of_ble_eq_true rfl)⟩ ⟨(Nat.le_of_ble_eq_true rfl), (Nat.le_of_ble_eq_true rfl)⟩ (fun σ κ ω H locs hW => ?_)
  refine zi_if_eq (tgt := 724) hC.1.1 hC.1.2.1 dL_sounds_526 (by decide) (by decide) (fun q => absurd q (by decide)) (fun _ => ?_)
  refine lv_aload_n hC.1.1 hC.1.2.1 dL_sounds_529 rfl (lv_at hl 0 rfl) ?_
  refine zi_const hC.1.1 hC.1.2.1 dL_sounds_530 ?_
  refine d_grant hst hC hW (v := 1) (d' := gsd17) (by decide) (by decide +kernel) (by decide +kernel) (deq_eq (by decide +kernel)) dL_sounds_531 hl.1 (Nat.le_of_ble_eq_true rfl) ⟨(Nat.le_of_ble_eq_true rfl), (Nat.le_of_ble_eq_true rfl)⟩ ⟨(Nat.le_of_ble_eq_true rfl), (Nat.le_of_ble_eq_true rfl)⟩ (fun σ κ ω H locs hW => ?_)
  refine zi_if_eq (tgt := 724) hC.1.1 hC.1.2.1 dL_sounds_534 (by decide) (by decide) (fun q => absurd q (by decide)) (fun _ => ?_)
  refine lv_aload_n hC.1.1 hC.1.2.1 dL_sounds_537 rfl (lv_at hl 0 rfl) ?_
  refine zi_const hC.1.1 hC.1.2.1 dL_sounds_538 ?_
  refine zi_bipush hC.1.1 hC.1.2.1 dL_sounds_539 rfl ?_
  refine zi_bipush hC.1.1 hC.1.2.1 dL_sounds_541 rfl ?_
  refine zi_const hC.1.1 hC.1.2.1 dL_sounds_543 ?_
  refine w_has hst hC hW (by decide) (by decide +kernel) (by decide +kernel) (by decide +kernel) (by decide +kernel) dL_sounds_544 hl.1 (Nat.le_of_ble_eq_true rfl) ⟨(Nat.le_of_ble_eq_true rfl), (Nat.le_of_ble_eq_true rfl)⟩ ⟨(Nat.le_of_ble_eq_true rfl), (Nat.le_of_ble_eq_true rfl)⟩ (fun σ κ ω H locs hW => ?_)
  refine zi_if_eq (tgt := 724) hC.1.1 hC.1.2.1 dL_sounds_547 (by decide) (by decide) (fun q => absurd q (by decide)) (fun _ => ?_)
  refine lv_aload_n hC.1.1 hC.1.2.1 dL_sounds_550 rfl (lv_at hl 0 rfl) ?_
  refine d_wipe hC hW (v := 4) rfl dL_sounds_551 hl.1 (Nat.le_of_ble_eq_true rfl) ⟨(Nat.le_of_ble_eq_true rfl), (Nat.le_of_ble_eq_true rfl)⟩ ⟨(Nat.le_of_ble_eq_true rfl), (Nat.le_of_ble_eq_true rfl)⟩ (fun σ κ ω H locs hW => ?_)
  refine zi_const hC.1.1 hC.1.2.1 dL_sounds_554 ?_
  refine zi_icmp_ne (tgt := 724) hC.1.1 hC.1.2.1 dL_sounds_555 (by decide) (by decide) (by decide) (fun q => absurd q (by decide)) (fun _ => ?_)
  refine lv_aload_n hC.1.1 hC.1.2.1 dL_sounds_558 rfl (lv_at hl 0 rfl) ?_
  refine d_wipe hC hW (v := 0) rfl dL_sounds_559 hl.1 (Nat.le_of_ble_eq_true rfl) ⟨(Nat.le_of_ble_eq_true rfl), (Nat.le_of_ble_eq_true rfl)⟩ ⟨(Nat.le_of_ble_eq_true rfl), (Nat.le_of_ble_eq_true rfl)⟩ (fun σ κ ω H locs hW => ?_)
  refine zi_if_ne (tgt := 724) hC.1.1 hC.1.2.1 dL_sounds_562 (by decide) (by decide) (fun q => absurd q (by decide)) (fun _ => ?_)
  exact (gs_5 l hst hC hr hlocks hAO σ κ ω H locs ls hW hl).wide (by decide) (by decide)
set_option maxRecDepth 100000 in
set_option maxHeartbeats 4000000 in
theorem gs_3 (l : Launch) (hst : l.stackTraces = false) {p : Program} {e : Env} {s : State} {m : MethodId} {args : Array Value} {below : List Frame} {meth : Method} {cd : Code} {A : Nat → Prop} {h : Nat → Nat} {D : va_G} {c : Nat → ClassId} (hC : CX p m cd cL_sounds 1 s args h D c A) (hr : meth.sig.returnType = some .boolean) (hlocks : meth.locks = false) (hAO : zAO A s s.heap) : ∀ (σ κ : Nat → Nat → Int) (ω : Nat × (Nat → Int32) × Int32) (H : Heap) (locs : List Loc) (ls : Array Slot), WS D c h A s σ κ ω gsd13 [] H locs → lv_has ls 1 [(0, .ref (h 0))] → W p l e { frames := 14, cells := 1271, slots := 6 * 1271, locals := 300 } s m args below meth cd H locs 127 819 (MQ below (va_Qi (fun r (u : Int × Unit) => r = iz u.1 ∧ u.1 = 1) (fun u t => zB 0 (fun _ => 0) D (fun _ => .inr (0, [])) t.heap) A) args s 1271 (6 * 1271) A) (F0 m 362 ls []) := by
  intro σ κ ω H locs ls hW hl
  refine lv_aload_n hC.1.1 hC.1.2.1 dL_sounds_362 rfl (lv_at hl 0 rfl) ?_
  refine zi_const hC.1.1 hC.1.2.1 dL_sounds_363 ?_
  refine zi_bipush hC.1.1 hC.1.2.1 dL_sounds_364 rfl ?_
  refine d_setWind hst hC hW (v := 1) (d' := gsd14) (by decide) (by decide) (by decide +kernel) (by decide +kernel) (deq_eq (by decide +kernel)) dL_sounds_366 hl.1 (Nat.le_of_ble_eq_true rfl) ⟨(Nat.le_of_ble_eq_true rfl), (Nat.le_of_ble_eq_true rfl)⟩ ⟨(Nat.le_of_ble_eq_true rfl), (Nat.le_of_ble_eq_true rfl)⟩ (fun σ κ ω H locs hW => ?_)
  refine zi_if_eq (tgt := 381) hC.1.1 hC.1.2.1 dL_sounds_369 (by decide) (by decide) (fun q => absurd q (by decide)) (fun _ => ?_)
  refine lv_aload_n hC.1.1 hC.1.2.1 dL_sounds_372 rfl (lv_at hl 0 rfl) ?_
  refine zi_const hC.1.1 hC.1.2.1 dL_sounds_373 ?_
  refine zi_const hC.1.1 hC.1.2.1 dL_sounds_374 ?_
  refine d_noise hst hC hW (v := 0) (by decide) (by decide) (by decide +kernel) (by decide +kernel) dL_sounds_375 hl.1 (Nat.le_of_ble_eq_true rfl) ⟨(Nat.le_of_ble_eq_true rfl), (Nat.le_of_ble_eq_true rfl)⟩ ⟨(Nat.le_of_ble_eq_true rfl), (Nat.le_of_ble_eq_true rfl)⟩ (fun σ κ ω H locs hW => ?_)
  refine zi_if_eq (tgt := 383) hC.1.1 hC.1.2.1 dL_sounds_378 (by decide) (by decide) (fun _ => ?_) (fun q => absurd q (by decide))
  refine lv_aload_n hC.1.1 hC.1.2.1 dL_sounds_383 rfl (lv_at hl 0 rfl) ?_
  refine zi_bipush hC.1.1 hC.1.2.1 dL_sounds_384 rfl ?_
  refine zi_const hC.1.1 hC.1.2.1 dL_sounds_386 ?_
  refine zi_const hC.1.1 hC.1.2.1 dL_sounds_387 ?_
  refine zi_const hC.1.1 hC.1.2.1 dL_sounds_388 ?_
  refine hx_act7_2 hst hC hW.1 hW.2.1 hW.2.2.1.1 (by decide) (WL_6 hW.2.2.2) (WL_by hW.2.2.2) ⟨(by rw [ES_na0 hW.2.2.1]; decide), Or.inr (fun i hi => by rw [TW_is hW.2.2.2 hi]; decide +kernel)⟩ dL_sounds_389 hl.1 (Nat.le_of_ble_eq_true rfl) ⟨(Nat.le_of_ble_eq_true rfl), (Nat.le_of_ble_eq_true rfl)⟩ ⟨(Nat.le_of_ble_eq_true rfl), (Nat.le_of_ble_eq_true rfl)⟩ (fun H locs hP hS => ?_)
  have hW : WS D c h A s σ κ ω gsd14 [] H locs := ⟨hP, hS, hW.2.2⟩
  refine zi_bipush hC.1.1 hC.1.2.1 dL_sounds_392 rfl ?_
  refine zi_icmp_ne (tgt := 724) hC.1.1 hC.1.2.1 dL_sounds_394 (by decide) (by decide) (by decide) (fun q => absurd q (by decide)) (fun _ => ?_)
  refine lv_aload_n hC.1.1 hC.1.2.1 dL_sounds_397 rfl (lv_at hl 0 rfl) ?_
  refine zi_bipush hC.1.1 hC.1.2.1 dL_sounds_398 rfl ?_
  refine zi_bipush hC.1.1 hC.1.2.1 dL_sounds_400 rfl ?_
  refine zi_bipush hC.1.1 hC.1.2.1 dL_sounds_402 rfl ?_
  refine zi_bipush hC.1.1 hC.1.2.1 dL_sounds_404 rfl ?_
  refine zi_const hC.1.1 hC.1.2.1 dL_sounds_406 ?_
  refine w_types4 hst hC hW (by decide) (by decide) (by decide) (by decide) dL_sounds_407 hl.1 (Nat.le_of_ble_eq_true rfl) ⟨(Nat.le_of_ble_eq_true rfl), (Nat.le_of_ble_eq_true rfl)⟩ ⟨(Nat.le_of_ble_eq_true rfl), (Nat.le_of_ble_eq_true rfl)⟩ (fun σ κ ω H locs hW => ?_)
  refine zi_if_eq (tgt := 724) hC.1.1 hC.1.2.1 dL_sounds_410 (by decide) (by decide) (fun q => absurd q (by decide)) (fun _ => ?_)
  refine lv_aload_n hC.1.1 hC.1.2.1 dL_sounds_413 rfl (lv_at hl 0 rfl) ?_
  refine zi_const hC.1.1 hC.1.2.1 dL_sounds_414 ?_
  refine d_grant hst hC hW (v := 1) (d' := gsd15) (by decide) (by decide +kernel) (by decide +kernel) (deq_eq (by decide +kernel)) dL_sounds_415 hl.1 (Nat.le_of_ble_eq_true rfl) ⟨(Nat.le_of_ble_eq_true rfl), (Nat.le_of_ble_eq_true rfl)⟩ ⟨(Nat.le_of_ble_eq_true rfl), (Nat.le_of_ble_eq_true rfl)⟩ (fun σ κ ω H locs hW => ?_)
  refine zi_if_eq (tgt := 724) hC.1.1 hC.1.2.1 dL_sounds_418 (by decide) (by decide) (fun q => absurd q (by decide)) (fun _ => ?_)
  refine lv_aload_n hC.1.1 hC.1.2.1 dL_sounds_421 rfl (lv_at hl 0 rfl) ?_
  refine zi_const hC.1.1 hC.1.2.1 dL_sounds_422 ?_
  refine zi_bipush hC.1.1 hC.1.2.1 dL_sounds_423 rfl ?_
  refine zi_bipush hC.1.1 hC.1.2.1 dL_sounds_425 rfl ?_
  refine zi_const hC.1.1 hC.1.2.1 dL_sounds_427 ?_
  refine w_has hst hC hW (by decide) (by decide +kernel) (by decide +kernel) (by decide +kernel) (by decide +kernel) dL_sounds_428 hl.1 (Nat.le_of_ble_eq_true rfl) ⟨(Nat.le_of_ble_eq_true rfl), (Nat.le_of_ble_eq_true rfl)⟩ ⟨(Nat.le_of_ble_eq_true rfl), (Nat.le_of_ble_eq_true rfl)⟩ (fun σ κ ω H locs hW => ?_)
  refine zi_if_eq (tgt := 724) hC.1.1 hC.1.2.1 dL_sounds_431 (by decide) (by decide) (fun q => absurd q (by decide)) (fun _ => ?_)
  refine lv_aload_n hC.1.1 hC.1.2.1 dL_sounds_434 rfl (lv_at hl 0 rfl) ?_
  refine zi_sipush hC.1.1 hC.1.2.1 dL_sounds_435 rfl ?_
  refine zi_const hC.1.1 hC.1.2.1 dL_sounds_438 ?_
  refine d_noise hst hC hW (v := 60) (by decide) (by decide) (by decide +kernel) (by decide +kernel) dL_sounds_439 hl.1 (Nat.le_of_ble_eq_true rfl) ⟨(Nat.le_of_ble_eq_true rfl), (Nat.le_of_ble_eq_true rfl)⟩ ⟨(Nat.le_of_ble_eq_true rfl), (Nat.le_of_ble_eq_true rfl)⟩ (fun σ κ ω H locs hW => ?_)
  refine zi_bipush hC.1.1 hC.1.2.1 dL_sounds_442 rfl ?_
  refine zi_icmp_ne (tgt := 724) hC.1.1 hC.1.2.1 dL_sounds_444 (by decide) (by decide) (by decide) (fun q => absurd q (by decide)) (fun _ => ?_)
  refine lv_aload_n hC.1.1 hC.1.2.1 dL_sounds_447 rfl (lv_at hl 0 rfl) ?_
  refine zi_const hC.1.1 hC.1.2.1 dL_sounds_448 ?_
  refine d_grant hst hC hW (v := 0) (d' := gsd15) (by decide) (by decide +kernel) (by decide +kernel) (deq_eq (by decide +kernel)) dL_sounds_449 hl.1 (Nat.le_of_ble_eq_true rfl) ⟨(Nat.le_of_ble_eq_true rfl), (Nat.le_of_ble_eq_true rfl)⟩ ⟨(Nat.le_of_ble_eq_true rfl), (Nat.le_of_ble_eq_true rfl)⟩ (fun σ κ ω H locs hW => ?_)
  refine zi_if_ne (tgt := 724) hC.1.1 hC.1.2.1 dL_sounds_452 (by decide) (by decide) (fun q => absurd q (by decide)) (fun _ => ?_)
  refine lv_aload_n hC.1.1 hC.1.2.1 dL_sounds_455 rfl (lv_at hl 0 rfl) ?_
  refine zi_const hC.1.1 hC.1.2.1 dL_sounds_456 ?_
  refine zi_bipush hC.1.1 hC.1.2.1 dL_sounds_457 rfl ?_
  refine zi_bipush hC.1.1 hC.1.2.1 dL_sounds_459 rfl ?_
  refine zi_const hC.1.1 hC.1.2.1 dL_sounds_461 ?_
  refine w_has hst hC hW (by decide) (by decide +kernel) (by decide +kernel) (by decide +kernel) (by decide +kernel) dL_sounds_462 hl.1 (Nat.le_of_ble_eq_true rfl) ⟨(Nat.le_of_ble_eq_true rfl), (Nat.le_of_ble_eq_true rfl)⟩ ⟨(Nat.le_of_ble_eq_true rfl), (Nat.le_of_ble_eq_true rfl)⟩ (fun σ κ ω H locs hW => ?_)
  refine zi_if_eq (tgt := 724) hC.1.1 hC.1.2.1 dL_sounds_465 (by decide) (by decide) (fun q => absurd q (by decide)) (fun _ => ?_)
  exact (gs_4 l hst hC hr hlocks hAO σ κ ω H locs ls hW hl).wide (by decide) (by decide)
set_option maxRecDepth 100000 in
set_option maxHeartbeats 4000000 in
theorem gs_2 (l : Launch) (hst : l.stackTraces = false) {p : Program} {e : Env} {s : State} {m : MethodId} {args : Array Value} {below : List Frame} {meth : Method} {cd : Code} {A : Nat → Prop} {h : Nat → Nat} {D : va_G} {c : Nat → ClassId} (hC : CX p m cd cL_sounds 1 s args h D c A) (hr : meth.sig.returnType = some .boolean) (hlocks : meth.locks = false) (hAO : zAO A s s.heap) : ∀ (σ κ : Nat → Nat → Int) (ω : Nat × (Nat → Int32) × Int32) (H : Heap) (locs : List Loc) (ls : Array Slot), WS D c h A s σ κ ω gsd10 [] H locs → lv_has ls 1 [(0, .ref (h 0))] → W p l e { frames := 14, cells := 1271, slots := 6 * 1271, locals := 300 } s m args below meth cd H locs 113 735 (MQ below (va_Qi (fun r (u : Int × Unit) => r = iz u.1 ∧ u.1 = 1) (fun u t => zB 0 (fun _ => 0) D (fun _ => .inr (0, [])) t.heap) A) args s 1271 (6 * 1271) A) (F0 m 260 ls []) := by
  intro σ κ ω H locs ls hW hl
  refine lv_aload_n hC.1.1 hC.1.2.1 dL_sounds_260 rfl (lv_at hl 0 rfl) ?_
  refine zi_const hC.1.1 hC.1.2.1 dL_sounds_261 ?_
  refine zi_bipush hC.1.1 hC.1.2.1 dL_sounds_262 rfl ?_
  refine d_setBound hst hC hW (v := 0) (d' := gsd10) (by decide) (by decide) (by decide +kernel) (by decide +kernel) (deq_eq (by decide +kernel)) dL_sounds_264 hl.1 (Nat.le_of_ble_eq_true rfl) ⟨(Nat.le_of_ble_eq_true rfl), (Nat.le_of_ble_eq_true rfl)⟩ ⟨(Nat.le_of_ble_eq_true rfl), (Nat.le_of_ble_eq_true rfl)⟩ (fun σ κ ω H locs hW => ?_)
  refine zi_if_ne (tgt := 381) hC.1.1 hC.1.2.1 dL_sounds_267 (by decide) (by decide) (fun q => absurd q (by decide)) (fun _ => ?_)
  refine lv_aload_n hC.1.1 hC.1.2.1 dL_sounds_270 rfl (lv_at hl 0 rfl) ?_
  refine zi_bipush hC.1.1 hC.1.2.1 dL_sounds_271 rfl ?_
  refine zi_const hC.1.1 hC.1.2.1 dL_sounds_273 ?_
  refine d_setWind hst hC hW (v := 1) (d' := gsd11) (by decide) (by decide) (by decide +kernel) (by decide +kernel) (deq_eq (by decide +kernel)) dL_sounds_274 hl.1 (Nat.le_of_ble_eq_true rfl) ⟨(Nat.le_of_ble_eq_true rfl), (Nat.le_of_ble_eq_true rfl)⟩ ⟨(Nat.le_of_ble_eq_true rfl), (Nat.le_of_ble_eq_true rfl)⟩ (fun σ κ ω H locs hW => ?_)
  refine zi_const hC.1.1 hC.1.2.1 dL_sounds_277 ?_
  refine zi_icmp_ne (tgt := 381) hC.1.1 hC.1.2.1 dL_sounds_278 (by decide) (by decide) (by decide) (fun q => absurd q (by decide)) (fun _ => ?_)
  refine lv_aload_n hC.1.1 hC.1.2.1 dL_sounds_281 rfl (lv_at hl 0 rfl) ?_
  refine zi_sipush hC.1.1 hC.1.2.1 dL_sounds_282 rfl ?_
  refine zi_const hC.1.1 hC.1.2.1 dL_sounds_285 ?_
  refine d_noise hst hC hW (v := 61) (by decide) (by decide) (by decide +kernel) (by decide +kernel) dL_sounds_286 hl.1 (Nat.le_of_ble_eq_true rfl) ⟨(Nat.le_of_ble_eq_true rfl), (Nat.le_of_ble_eq_true rfl)⟩ ⟨(Nat.le_of_ble_eq_true rfl), (Nat.le_of_ble_eq_true rfl)⟩ (fun σ κ ω H locs hW => ?_)
  refine zi_bipush hC.1.1 hC.1.2.1 dL_sounds_289 rfl ?_
  refine zi_icmp_ne (tgt := 381) hC.1.1 hC.1.2.1 dL_sounds_291 (by decide) (by decide) (by decide) (fun q => absurd q (by decide)) (fun _ => ?_)
  refine lv_aload_n hC.1.1 hC.1.2.1 dL_sounds_294 rfl (lv_at hl 0 rfl) ?_
  refine zi_bipush hC.1.1 hC.1.2.1 dL_sounds_295 rfl ?_
  refine zi_const hC.1.1 hC.1.2.1 dL_sounds_297 ?_
  refine d_setWind hst hC hW (v := 0) (d' := gsd11) (by decide) (by decide) (by decide +kernel) (by decide +kernel) (deq_eq (by decide +kernel)) dL_sounds_298 hl.1 (Nat.le_of_ble_eq_true rfl) ⟨(Nat.le_of_ble_eq_true rfl), (Nat.le_of_ble_eq_true rfl)⟩ ⟨(Nat.le_of_ble_eq_true rfl), (Nat.le_of_ble_eq_true rfl)⟩ (fun σ κ ω H locs hW => ?_)
  refine zi_if_ne (tgt := 381) hC.1.1 hC.1.2.1 dL_sounds_301 (by decide) (by decide) (fun q => absurd q (by decide)) (fun _ => ?_)
  refine lv_aload_n hC.1.1 hC.1.2.1 dL_sounds_304 rfl (lv_at hl 0 rfl) ?_
  refine zi_bipush hC.1.1 hC.1.2.1 dL_sounds_305 rfl ?_
  refine zi_const hC.1.1 hC.1.2.1 dL_sounds_307 ?_
  refine d_setWind hst hC hW (v := 1) (d' := gsd12) (by decide) (by decide) (by decide +kernel) (by decide +kernel) (deq_eq (by decide +kernel)) dL_sounds_308 hl.1 (Nat.le_of_ble_eq_true rfl) ⟨(Nat.le_of_ble_eq_true rfl), (Nat.le_of_ble_eq_true rfl)⟩ ⟨(Nat.le_of_ble_eq_true rfl), (Nat.le_of_ble_eq_true rfl)⟩ (fun σ κ ω H locs hW => ?_)
  refine zi_const hC.1.1 hC.1.2.1 dL_sounds_311 ?_
  refine zi_icmp_ne (tgt := 381) hC.1.1 hC.1.2.1 dL_sounds_312 (by decide) (by decide) (by decide) (fun q => absurd q (by decide)) (fun _ => ?_)
  refine lv_aload_n hC.1.1 hC.1.2.1 dL_sounds_315 rfl (lv_at hl 0 rfl) ?_
  refine zi_sipush hC.1.1 hC.1.2.1 dL_sounds_316 rfl ?_
  refine zi_const hC.1.1 hC.1.2.1 dL_sounds_319 ?_
  refine d_noise hst hC hW (v := 55) (by decide) (by decide) (by decide +kernel) (by decide +kernel) dL_sounds_320 hl.1 (Nat.le_of_ble_eq_true rfl) ⟨(Nat.le_of_ble_eq_true rfl), (Nat.le_of_ble_eq_true rfl)⟩ ⟨(Nat.le_of_ble_eq_true rfl), (Nat.le_of_ble_eq_true rfl)⟩ (fun σ κ ω H locs hW => ?_)
  refine zi_bipush hC.1.1 hC.1.2.1 dL_sounds_323 rfl ?_
  refine zi_icmp_ne (tgt := 381) hC.1.1 hC.1.2.1 dL_sounds_325 (by decide) (by decide) (by decide) (fun q => absurd q (by decide)) (fun _ => ?_)
  refine lv_aload_n hC.1.1 hC.1.2.1 dL_sounds_328 rfl (lv_at hl 0 rfl) ?_
  refine zi_sipush hC.1.1 hC.1.2.1 dL_sounds_329 rfl ?_
  refine zi_const hC.1.1 hC.1.2.1 dL_sounds_332 ?_
  refine d_noise hst hC hW (v := 35) (by decide) (by decide) (by decide +kernel) (by decide +kernel) dL_sounds_333 hl.1 (Nat.le_of_ble_eq_true rfl) ⟨(Nat.le_of_ble_eq_true rfl), (Nat.le_of_ble_eq_true rfl)⟩ ⟨(Nat.le_of_ble_eq_true rfl), (Nat.le_of_ble_eq_true rfl)⟩ (fun σ κ ω H locs hW => ?_)
  refine zi_bipush hC.1.1 hC.1.2.1 dL_sounds_336 rfl ?_
  refine zi_icmp_ne (tgt := 381) hC.1.1 hC.1.2.1 dL_sounds_338 (by decide) (by decide) (by decide) (fun q => absurd q (by decide)) (fun _ => ?_)
  refine lv_aload_n hC.1.1 hC.1.2.1 dL_sounds_341 rfl (lv_at hl 0 rfl) ?_
  refine zi_const hC.1.1 hC.1.2.1 dL_sounds_342 ?_
  refine zi_bipush hC.1.1 hC.1.2.1 dL_sounds_343 rfl ?_
  refine d_setBound hst hC hW (v := 0) (d' := gsd12) (by decide) (by decide) (by decide +kernel) (by decide +kernel) (deq_eq (by decide +kernel)) dL_sounds_345 hl.1 (Nat.le_of_ble_eq_true rfl) ⟨(Nat.le_of_ble_eq_true rfl), (Nat.le_of_ble_eq_true rfl)⟩ ⟨(Nat.le_of_ble_eq_true rfl), (Nat.le_of_ble_eq_true rfl)⟩ (fun σ κ ω H locs hW => ?_)
  refine zi_if_ne (tgt := 381) hC.1.1 hC.1.2.1 dL_sounds_348 (by decide) (by decide) (fun q => absurd q (by decide)) (fun _ => ?_)
  refine lv_aload_n hC.1.1 hC.1.2.1 dL_sounds_351 rfl (lv_at hl 0 rfl) ?_
  refine zi_bipush hC.1.1 hC.1.2.1 dL_sounds_352 rfl ?_
  refine zi_bipush hC.1.1 hC.1.2.1 dL_sounds_354 rfl ?_
  refine d_setWind hst hC hW (v := 1) (d' := gsd13) (by decide) (by decide) (by decide +kernel) (by decide +kernel) (deq_eq (by decide +kernel)) dL_sounds_356 hl.1 (Nat.le_of_ble_eq_true rfl) ⟨(Nat.le_of_ble_eq_true rfl), (Nat.le_of_ble_eq_true rfl)⟩ ⟨(Nat.le_of_ble_eq_true rfl), (Nat.le_of_ble_eq_true rfl)⟩ (fun σ κ ω H locs hW => ?_)
  refine zi_if_eq (tgt := 381) hC.1.1 hC.1.2.1 dL_sounds_359 (by decide) (by decide) (fun q => absurd q (by decide)) (fun _ => ?_)
  exact (gs_3 l hst hC hr hlocks hAO σ κ ω H locs ls hW hl).wide (by decide) (by decide)
set_option maxRecDepth 100000 in
set_option maxHeartbeats 4000000 in
theorem gs_1 (l : Launch) (hst : l.stackTraces = false) {p : Program} {e : Env} {s : State} {m : MethodId} {args : Array Value} {below : List Frame} {meth : Method} {cd : Code} {A : Nat → Prop} {h : Nat → Nat} {D : va_G} {c : Nat → ClassId} (hC : CX p m cd cL_sounds 1 s args h D c A) (hr : meth.sig.returnType = some .boolean) (hlocks : meth.locks = false) (hAO : zAO A s s.heap) : ∀ (σ κ : Nat → Nat → Int) (ω : Nat × (Nat → Int32) × Int32) (H : Heap) (locs : List Loc) (ls : Array Slot), WS D c h A s σ κ ω gsd5 [] H locs → lv_has ls 1 [(0, .ref (h 0))] → W p l e { frames := 14, cells := 1271, slots := 6 * 1271, locals := 300 } s m args below meth cd H locs 74 501 (MQ below (va_Qi (fun r (u : Int × Unit) => r = iz u.1 ∧ u.1 = 1) (fun u t => zB 0 (fun _ => 0) D (fun _ => .inr (0, [])) t.heap) A) args s 1271 (6 * 1271) A) (F0 m 140 ls []) := by
  intro σ κ ω H locs ls hW hl
  refine lv_aload_n hC.1.1 hC.1.2.1 dL_sounds_140 rfl (lv_at hl 0 rfl) ?_
  refine zi_const hC.1.1 hC.1.2.1 dL_sounds_141 ?_
  refine zi_const hC.1.1 hC.1.2.1 dL_sounds_142 ?_
  refine zi_const hC.1.1 hC.1.2.1 dL_sounds_143 ?_
  refine zi_const hC.1.1 hC.1.2.1 dL_sounds_144 ?_
  refine zi_const hC.1.1 hC.1.2.1 dL_sounds_145 ?_
  refine zi_const hC.1.1 hC.1.2.1 dL_sounds_146 ?_
  refine zi_bipush hC.1.1 hC.1.2.1 dL_sounds_147 rfl ?_
  refine zi_const hC.1.1 hC.1.2.1 dL_sounds_149 ?_
  refine w_plan1 hst hC hW (v := 0) (d' := gsd6) (by decide) (by decide) (by decide) (by decide) (by decide) (by decide) (by decide) (by decide +kernel) (by decide +kernel) (deq_eq (by decide +kernel)) dL_sounds_150 hl.1 (Nat.le_of_ble_eq_true rfl) ⟨(Nat.le_of_ble_eq_true rfl), (Nat.le_of_ble_eq_true rfl)⟩ ⟨(Nat.le_of_ble_eq_true rfl), (Nat.le_of_ble_eq_true rfl)⟩ (fun σ κ ω H locs hW => ?_)
  refine zi_if_ne (tgt := 381) hC.1.1 hC.1.2.1 dL_sounds_153 (by decide) (by decide) (fun q => absurd q (by decide)) (fun _ => ?_)
  refine lv_aload_n hC.1.1 hC.1.2.1 dL_sounds_156 rfl (lv_at hl 0 rfl) ?_
  refine zi_const hC.1.1 hC.1.2.1 dL_sounds_157 ?_
  refine zi_const hC.1.1 hC.1.2.1 dL_sounds_158 ?_
  refine zi_sipush hC.1.1 hC.1.2.1 dL_sounds_159 rfl ?_
  refine zi_const hC.1.1 hC.1.2.1 dL_sounds_162 ?_
  refine zi_const hC.1.1 hC.1.2.1 dL_sounds_163 ?_
  refine zi_const hC.1.1 hC.1.2.1 dL_sounds_164 ?_
  refine zi_bipush hC.1.1 hC.1.2.1 dL_sounds_165 rfl ?_
  refine zi_const hC.1.1 hC.1.2.1 dL_sounds_167 ?_
  refine w_plan1 hst hC hW (v := 4) (d' := gsd7) (by decide) (by decide) (by decide) (by decide) (by decide) (by decide) (by decide) (by decide +kernel) (by decide +kernel) (deq_eq (by decide +kernel)) dL_sounds_168 hl.1 (Nat.le_of_ble_eq_true rfl) ⟨(Nat.le_of_ble_eq_true rfl), (Nat.le_of_ble_eq_true rfl)⟩ ⟨(Nat.le_of_ble_eq_true rfl), (Nat.le_of_ble_eq_true rfl)⟩ (fun σ κ ω H locs hW => ?_)
  refine zi_const hC.1.1 hC.1.2.1 dL_sounds_171 ?_
  refine zi_icmp_ne (tgt := 381) hC.1.1 hC.1.2.1 dL_sounds_172 (by decide) (by decide) (by decide) (fun q => absurd q (by decide)) (fun _ => ?_)
  refine lv_aload_n hC.1.1 hC.1.2.1 dL_sounds_175 rfl (lv_at hl 0 rfl) ?_
  refine zi_const hC.1.1 hC.1.2.1 dL_sounds_176 ?_
  refine zi_const hC.1.1 hC.1.2.1 dL_sounds_177 ?_
  refine zi_sipush hC.1.1 hC.1.2.1 dL_sounds_178 rfl ?_
  refine zi_const hC.1.1 hC.1.2.1 dL_sounds_181 ?_
  refine zi_const hC.1.1 hC.1.2.1 dL_sounds_182 ?_
  refine zi_const hC.1.1 hC.1.2.1 dL_sounds_183 ?_
  refine zi_bipush hC.1.1 hC.1.2.1 dL_sounds_184 rfl ?_
  refine zi_const hC.1.1 hC.1.2.1 dL_sounds_186 ?_
  refine w_plan1 hst hC hW (v := 0) (d' := gsd8) (by decide) (by decide) (by decide) (by decide) (by decide) (by decide) (by decide) (by decide +kernel) (by decide +kernel) (deq_eq (by decide +kernel)) dL_sounds_187 hl.1 (Nat.le_of_ble_eq_true rfl) ⟨(Nat.le_of_ble_eq_true rfl), (Nat.le_of_ble_eq_true rfl)⟩ ⟨(Nat.le_of_ble_eq_true rfl), (Nat.le_of_ble_eq_true rfl)⟩ (fun σ κ ω H locs hW => ?_)
  refine zi_if_ne (tgt := 381) hC.1.1 hC.1.2.1 dL_sounds_190 (by decide) (by decide) (fun q => absurd q (by decide)) (fun _ => ?_)
  refine lv_aload_n hC.1.1 hC.1.2.1 dL_sounds_193 rfl (lv_at hl 0 rfl) ?_
  refine zi_const hC.1.1 hC.1.2.1 dL_sounds_194 ?_
  refine zi_sipush hC.1.1 hC.1.2.1 dL_sounds_195 rfl ?_
  refine d_move hst hC hW (v := 0) (d' := gsd8) (by decide) (by decide) (by decide +kernel) (by decide +kernel) (deq_eq (by decide +kernel)) dL_sounds_198 hl.1 (Nat.le_of_ble_eq_true rfl) ⟨(Nat.le_of_ble_eq_true rfl), (Nat.le_of_ble_eq_true rfl)⟩ ⟨(Nat.le_of_ble_eq_true rfl), (Nat.le_of_ble_eq_true rfl)⟩ (fun σ κ ω H locs hW => ?_)
  refine zi_if_ne (tgt := 381) hC.1.1 hC.1.2.1 dL_sounds_201 (by decide) (by decide) (fun q => absurd q (by decide)) (fun _ => ?_)
  refine lv_aload_n hC.1.1 hC.1.2.1 dL_sounds_204 rfl (lv_at hl 0 rfl) ?_
  refine zi_const hC.1.1 hC.1.2.1 dL_sounds_205 ?_
  refine zi_sipush hC.1.1 hC.1.2.1 dL_sounds_206 rfl ?_
  refine d_firstStart hst hC hW (v := (-1)) (by decide) (by decide) (by decide +kernel) (by decide +kernel) (by decide +kernel) dL_sounds_209 hl.1 (Nat.le_of_ble_eq_true rfl) ⟨(Nat.le_of_ble_eq_true rfl), (Nat.le_of_ble_eq_true rfl)⟩ ⟨(Nat.le_of_ble_eq_true rfl), (Nat.le_of_ble_eq_true rfl)⟩ (fun σ κ ω H locs hW => ?_)
  refine zi_const hC.1.1 hC.1.2.1 dL_sounds_212 ?_
  refine zi_icmp_ne (tgt := 381) hC.1.1 hC.1.2.1 dL_sounds_213 (by decide) (by decide) (by decide) (fun q => absurd q (by decide)) (fun _ => ?_)
  refine lv_aload_n hC.1.1 hC.1.2.1 dL_sounds_216 rfl (lv_at hl 0 rfl) ?_
  refine zi_const hC.1.1 hC.1.2.1 dL_sounds_217 ?_
  refine zi_bipush hC.1.1 hC.1.2.1 dL_sounds_218 rfl ?_
  refine d_setBound hst hC hW (v := 1) (d' := gsd9) (by decide) (by decide) (by decide +kernel) (by decide +kernel) (deq_eq (by decide +kernel)) dL_sounds_220 hl.1 (Nat.le_of_ble_eq_true rfl) ⟨(Nat.le_of_ble_eq_true rfl), (Nat.le_of_ble_eq_true rfl)⟩ ⟨(Nat.le_of_ble_eq_true rfl), (Nat.le_of_ble_eq_true rfl)⟩ (fun σ κ ω H locs hW => ?_)
  refine zi_if_eq (tgt := 381) hC.1.1 hC.1.2.1 dL_sounds_223 (by decide) (by decide) (fun q => absurd q (by decide)) (fun _ => ?_)
  refine lv_aload_n hC.1.1 hC.1.2.1 dL_sounds_226 rfl (lv_at hl 0 rfl) ?_
  refine zi_const hC.1.1 hC.1.2.1 dL_sounds_227 ?_
  refine zi_bipush hC.1.1 hC.1.2.1 dL_sounds_228 rfl ?_
  refine d_setBound hst hC hW (v := 1) (d' := gsd9) (by decide) (by decide) (by decide +kernel) (by decide +kernel) (deq_eq (by decide +kernel)) dL_sounds_230 hl.1 (Nat.le_of_ble_eq_true rfl) ⟨(Nat.le_of_ble_eq_true rfl), (Nat.le_of_ble_eq_true rfl)⟩ ⟨(Nat.le_of_ble_eq_true rfl), (Nat.le_of_ble_eq_true rfl)⟩ (fun σ κ ω H locs hW => ?_)
  refine zi_if_eq (tgt := 381) hC.1.1 hC.1.2.1 dL_sounds_233 (by decide) (by decide) (fun q => absurd q (by decide)) (fun _ => ?_)
  refine lv_aload_n hC.1.1 hC.1.2.1 dL_sounds_236 rfl (lv_at hl 0 rfl) ?_
  refine zi_const hC.1.1 hC.1.2.1 dL_sounds_237 ?_
  refine zi_sipush hC.1.1 hC.1.2.1 dL_sounds_238 rfl ?_
  refine d_move hst hC hW (v := 1) (d' := gsd10) (by decide) (by decide) (by decide +kernel) (by decide +kernel) (deq_eq (by decide +kernel)) dL_sounds_241 hl.1 (Nat.le_of_ble_eq_true rfl) ⟨(Nat.le_of_ble_eq_true rfl), (Nat.le_of_ble_eq_true rfl)⟩ ⟨(Nat.le_of_ble_eq_true rfl), (Nat.le_of_ble_eq_true rfl)⟩ (fun σ κ ω H locs hW => ?_)
  refine zi_if_eq (tgt := 381) hC.1.1 hC.1.2.1 dL_sounds_244 (by decide) (by decide) (fun q => absurd q (by decide)) (fun _ => ?_)
  refine lv_aload_n hC.1.1 hC.1.2.1 dL_sounds_247 rfl (lv_at hl 0 rfl) ?_
  refine zi_sipush hC.1.1 hC.1.2.1 dL_sounds_248 rfl ?_
  refine zi_const hC.1.1 hC.1.2.1 dL_sounds_251 ?_
  refine d_noise hst hC hW (v := 60) (by decide) (by decide) (by decide +kernel) (by decide +kernel) dL_sounds_252 hl.1 (Nat.le_of_ble_eq_true rfl) ⟨(Nat.le_of_ble_eq_true rfl), (Nat.le_of_ble_eq_true rfl)⟩ ⟨(Nat.le_of_ble_eq_true rfl), (Nat.le_of_ble_eq_true rfl)⟩ (fun σ κ ω H locs hW => ?_)
  refine zi_bipush hC.1.1 hC.1.2.1 dL_sounds_255 rfl ?_
  refine zi_icmp_ne (tgt := 381) hC.1.1 hC.1.2.1 dL_sounds_257 (by decide) (by decide) (by decide) (fun q => absurd q (by decide)) (fun _ => ?_)
  exact (gs_2 l hst hC hr hlocks hAO σ κ ω H locs ls hW hl).wide (by decide) (by decide)
set_option maxRecDepth 100000 in
set_option maxHeartbeats 4000000 in
theorem gs_0 (l : Launch) (hst : l.stackTraces = false) {p : Program} {e : Env} {s : State} {m : MethodId} {args : Array Value} {below : List Frame} {meth : Method} {cd : Code} {A : Nat → Prop} {h : Nat → Nat} {D : va_G} {c : Nat → ClassId} (hC : CX p m cd cL_sounds 1 s args h D c A) (hr : meth.sig.returnType = some .boolean) (hlocks : meth.locks = false) (hAO : zAO A s s.heap) : ∀ (σ κ : Nat → Nat → Int) (ω : Nat × (Nat → Int32) × Int32) (H : Heap) (locs : List Loc) (ls : Array Slot), WS D c h A s σ κ ω gsd0 [] H locs → lv_has ls 1 [(0, .ref (h 0))] → W p l e { frames := 14, cells := 1271, slots := 6 * 1271, locals := 300 } s m args below meth cd H locs 32 249 (MQ below (va_Qi (fun r (u : Int × Unit) => r = iz u.1 ∧ u.1 = 1) (fun u t => zB 0 (fun _ => 0) D (fun _ => .inr (0, [])) t.heap) A) args s 1271 (6 * 1271) A) (F0 m 8 ls []) := by
  intro σ κ ω H locs ls hW hl
  refine lv_aload_n hC.1.1 hC.1.2.1 dL_sounds_8 rfl (lv_at hl 0 rfl) ?_
  refine zi_const hC.1.1 hC.1.2.1 dL_sounds_9 ?_
  refine d_startSet hst hC hW (v := 1) (d' := gsd1) (by decide) (by decide +kernel) (by decide +kernel) (deq_eq (by decide +kernel)) dL_sounds_10 hl.1 (Nat.le_of_ble_eq_true rfl) ⟨(Nat.le_of_ble_eq_true rfl), (Nat.le_of_ble_eq_true rfl)⟩ ⟨(Nat.le_of_ble_eq_true rfl), (Nat.le_of_ble_eq_true rfl)⟩ (fun σ κ ω H locs hW => ?_)
  refine zi_const hC.1.1 hC.1.2.1 dL_sounds_13 ?_
  refine zi_icmp_ne (tgt := 381) hC.1.1 hC.1.2.1 dL_sounds_14 (by decide) (by decide) (by decide) (fun q => absurd q (by decide)) (fun _ => ?_)
  refine lv_aload_n hC.1.1 hC.1.2.1 dL_sounds_17 rfl (lv_at hl 0 rfl) ?_
  refine zi_const hC.1.1 hC.1.2.1 dL_sounds_18 ?_
  refine zi_sipush hC.1.1 hC.1.2.1 dL_sounds_19 rfl ?_
  refine zi_bipush hC.1.1 hC.1.2.1 dL_sounds_22 rfl ?_
  refine zi_const hC.1.1 hC.1.2.1 dL_sounds_24 ?_
  refine zi_bipush hC.1.1 hC.1.2.1 dL_sounds_25 rfl ?_
  refine zi_bipush hC.1.1 hC.1.2.1 dL_sounds_27 rfl ?_
  refine zi_const hC.1.1 hC.1.2.1 dL_sounds_29 ?_
  refine d_plan hst hC hW (v := 0) (d' := gsd2) (by decide) (by decide) (by decide) (by decide) (by decide) (by decide) (by decide) (by decide +kernel) (by decide +kernel) (deq_eq (by decide +kernel)) dL_sounds_30 hl.1 (Nat.le_of_ble_eq_true rfl) ⟨(Nat.le_of_ble_eq_true rfl), (Nat.le_of_ble_eq_true rfl)⟩ ⟨(Nat.le_of_ble_eq_true rfl), (Nat.le_of_ble_eq_true rfl)⟩ (fun σ κ ω H locs hW => ?_)
  refine zi_if_ne (tgt := 381) hC.1.1 hC.1.2.1 dL_sounds_33 (by decide) (by decide) (fun q => absurd q (by decide)) (fun _ => ?_)
  refine lv_aload_n hC.1.1 hC.1.2.1 dL_sounds_36 rfl (lv_at hl 0 rfl) ?_
  refine zi_sipush hC.1.1 hC.1.2.1 dL_sounds_37 rfl ?_
  refine zi_const hC.1.1 hC.1.2.1 dL_sounds_40 ?_
  refine d_noise hst hC hW (v := 60) (by decide) (by decide) (by decide +kernel) (by decide +kernel) dL_sounds_41 hl.1 (Nat.le_of_ble_eq_true rfl) ⟨(Nat.le_of_ble_eq_true rfl), (Nat.le_of_ble_eq_true rfl)⟩ ⟨(Nat.le_of_ble_eq_true rfl), (Nat.le_of_ble_eq_true rfl)⟩ (fun σ κ ω H locs hW => ?_)
  refine zi_bipush hC.1.1 hC.1.2.1 dL_sounds_44 rfl ?_
  refine zi_icmp_ne (tgt := 381) hC.1.1 hC.1.2.1 dL_sounds_46 (by decide) (by decide) (by decide) (fun q => absurd q (by decide)) (fun _ => ?_)
  refine lv_aload_n hC.1.1 hC.1.2.1 dL_sounds_49 rfl (lv_at hl 0 rfl) ?_
  refine zi_sipush hC.1.1 hC.1.2.1 dL_sounds_50 rfl ?_
  refine zi_const hC.1.1 hC.1.2.1 dL_sounds_53 ?_
  refine d_noise hst hC hW (v := 50) (by decide) (by decide) (by decide +kernel) (by decide +kernel) dL_sounds_54 hl.1 (Nat.le_of_ble_eq_true rfl) ⟨(Nat.le_of_ble_eq_true rfl), (Nat.le_of_ble_eq_true rfl)⟩ ⟨(Nat.le_of_ble_eq_true rfl), (Nat.le_of_ble_eq_true rfl)⟩ (fun σ κ ω H locs hW => ?_)
  refine zi_bipush hC.1.1 hC.1.2.1 dL_sounds_57 rfl ?_
  refine zi_icmp_ne (tgt := 381) hC.1.1 hC.1.2.1 dL_sounds_59 (by decide) (by decide) (by decide) (fun q => absurd q (by decide)) (fun _ => ?_)
  refine lv_aload_n hC.1.1 hC.1.2.1 dL_sounds_62 rfl (lv_at hl 0 rfl) ?_
  refine zi_sipush hC.1.1 hC.1.2.1 dL_sounds_63 rfl ?_
  refine zi_const hC.1.1 hC.1.2.1 dL_sounds_66 ?_
  refine d_noise hst hC hW (v := 40) (by decide) (by decide) (by decide +kernel) (by decide +kernel) dL_sounds_67 hl.1 (Nat.le_of_ble_eq_true rfl) ⟨(Nat.le_of_ble_eq_true rfl), (Nat.le_of_ble_eq_true rfl)⟩ ⟨(Nat.le_of_ble_eq_true rfl), (Nat.le_of_ble_eq_true rfl)⟩ (fun σ κ ω H locs hW => ?_)
  refine zi_bipush hC.1.1 hC.1.2.1 dL_sounds_70 rfl ?_
  refine zi_icmp_ne (tgt := 381) hC.1.1 hC.1.2.1 dL_sounds_72 (by decide) (by decide) (by decide) (fun q => absurd q (by decide)) (fun _ => ?_)
  refine lv_aload_n hC.1.1 hC.1.2.1 dL_sounds_75 rfl (lv_at hl 0 rfl) ?_
  refine zi_sipush hC.1.1 hC.1.2.1 dL_sounds_76 rfl ?_
  refine zi_const hC.1.1 hC.1.2.1 dL_sounds_79 ?_
  refine d_noise hst hC hW (v := 0) (by decide) (by decide) (by decide +kernel) (by decide +kernel) dL_sounds_80 hl.1 (Nat.le_of_ble_eq_true rfl) ⟨(Nat.le_of_ble_eq_true rfl), (Nat.le_of_ble_eq_true rfl)⟩ ⟨(Nat.le_of_ble_eq_true rfl), (Nat.le_of_ble_eq_true rfl)⟩ (fun σ κ ω H locs hW => ?_)
  refine zi_if_ne (tgt := 381) hC.1.1 hC.1.2.1 dL_sounds_83 (by decide) (by decide) (fun q => absurd q (by decide)) (fun _ => ?_)
  refine lv_aload_n hC.1.1 hC.1.2.1 dL_sounds_86 rfl (lv_at hl 0 rfl) ?_
  refine zi_const hC.1.1 hC.1.2.1 dL_sounds_87 ?_
  refine zi_const hC.1.1 hC.1.2.1 dL_sounds_88 ?_
  refine zi_sipush hC.1.1 hC.1.2.1 dL_sounds_89 rfl ?_
  refine zi_const hC.1.1 hC.1.2.1 dL_sounds_92 ?_
  refine zi_const hC.1.1 hC.1.2.1 dL_sounds_93 ?_
  refine zi_const hC.1.1 hC.1.2.1 dL_sounds_94 ?_
  refine zi_bipush hC.1.1 hC.1.2.1 dL_sounds_95 rfl ?_
  refine zi_const hC.1.1 hC.1.2.1 dL_sounds_97 ?_
  refine w_plan1 hst hC hW (v := 0) (d' := gsd3) (by decide) (by decide) (by decide) (by decide) (by decide) (by decide) (by decide) (by decide +kernel) (by decide +kernel) (deq_eq (by decide +kernel)) dL_sounds_98 hl.1 (Nat.le_of_ble_eq_true rfl) ⟨(Nat.le_of_ble_eq_true rfl), (Nat.le_of_ble_eq_true rfl)⟩ ⟨(Nat.le_of_ble_eq_true rfl), (Nat.le_of_ble_eq_true rfl)⟩ (fun σ κ ω H locs hW => ?_)
  refine zi_if_ne (tgt := 381) hC.1.1 hC.1.2.1 dL_sounds_101 (by decide) (by decide) (fun q => absurd q (by decide)) (fun _ => ?_)
  refine lv_aload_n hC.1.1 hC.1.2.1 dL_sounds_104 rfl (lv_at hl 0 rfl) ?_
  refine zi_const hC.1.1 hC.1.2.1 dL_sounds_105 ?_
  refine zi_const hC.1.1 hC.1.2.1 dL_sounds_106 ?_
  refine zi_sipush hC.1.1 hC.1.2.1 dL_sounds_107 rfl ?_
  refine zi_const hC.1.1 hC.1.2.1 dL_sounds_110 ?_
  refine zi_const hC.1.1 hC.1.2.1 dL_sounds_111 ?_
  refine zi_const hC.1.1 hC.1.2.1 dL_sounds_112 ?_
  refine zi_bipush hC.1.1 hC.1.2.1 dL_sounds_113 rfl ?_
  refine zi_const hC.1.1 hC.1.2.1 dL_sounds_115 ?_
  refine w_plan1 hst hC hW (v := 4) (d' := gsd4) (by decide) (by decide) (by decide) (by decide) (by decide) (by decide) (by decide) (by decide +kernel) (by decide +kernel) (deq_eq (by decide +kernel)) dL_sounds_116 hl.1 (Nat.le_of_ble_eq_true rfl) ⟨(Nat.le_of_ble_eq_true rfl), (Nat.le_of_ble_eq_true rfl)⟩ ⟨(Nat.le_of_ble_eq_true rfl), (Nat.le_of_ble_eq_true rfl)⟩ (fun σ κ ω H locs hW => ?_)
  refine zi_const hC.1.1 hC.1.2.1 dL_sounds_119 ?_
  refine zi_icmp_ne (tgt := 381) hC.1.1 hC.1.2.1 dL_sounds_120 (by decide) (by decide) (by decide) (fun q => absurd q (by decide)) (fun _ => ?_)
  refine lv_aload_n hC.1.1 hC.1.2.1 dL_sounds_123 rfl (lv_at hl 0 rfl) ?_
  refine zi_const hC.1.1 hC.1.2.1 dL_sounds_124 ?_
  refine zi_const hC.1.1 hC.1.2.1 dL_sounds_125 ?_
  refine zi_const hC.1.1 hC.1.2.1 dL_sounds_126 ?_
  refine zi_const hC.1.1 hC.1.2.1 dL_sounds_127 ?_
  refine zi_const hC.1.1 hC.1.2.1 dL_sounds_128 ?_
  refine zi_const hC.1.1 hC.1.2.1 dL_sounds_129 ?_
  refine zi_bipush hC.1.1 hC.1.2.1 dL_sounds_130 rfl ?_
  refine zi_const hC.1.1 hC.1.2.1 dL_sounds_132 ?_
  refine w_plan1 hst hC hW (v := 4) (d' := gsd5) (by decide) (by decide) (by decide) (by decide) (by decide) (by decide) (by decide) (by decide +kernel) (by decide +kernel) (deq_eq (by decide +kernel)) dL_sounds_133 hl.1 (Nat.le_of_ble_eq_true rfl) ⟨(Nat.le_of_ble_eq_true rfl), (Nat.le_of_ble_eq_true rfl)⟩ ⟨(Nat.le_of_ble_eq_true rfl), (Nat.le_of_ble_eq_true rfl)⟩ (fun σ κ ω H locs hW => ?_)
  refine zi_const hC.1.1 hC.1.2.1 dL_sounds_136 ?_
  refine zi_icmp_ne (tgt := 381) hC.1.1 hC.1.2.1 dL_sounds_137 (by decide) (by decide) (by decide) (fun q => absurd q (by decide)) (fun _ => ?_)
  exact (gs_1 l hst hC hr hlocks hAO σ κ ω H locs ls hW hl).wide (by decide) (by decide)
set_option maxRecDepth 100000 in
set_option maxHeartbeats 4000000 in
theorem c_L_sounds (l : Launch) (D : va_G) (c : Nat → ClassId) (hst : l.stackTraces = false) :
    ∀ sz, Met l yL_sounds (Cond.code yL_sounds cL_sounds 1 (some .boolean) :: UW) { frames := 14, cells := 1271, slots := 6 * 1271, locals := 300 } (zPE zNA [] 0 (fun _ => 0) D (gT c) sz (fun _ => .inr (0, []))) (va_Qi (fun r (u : Int × Unit) => r = iz u.1 ∧ u.1 = 1) (fun u t => zB 0 (fun _ => 0) D (fun _ => .inr (0, [])) t.heap) (zA 0 (fun _ => 0) sz)) 1271 (6 * 1271) (zA 0 (fun _ => 0) sz) := by
  refine zEM_of (Ex := zNA) (by decide) (Nat.le_of_ble_eq_true rfl) ?_
  intro p e s m below meth cd ls ⟨hF, hr, hlocks, hK, hX⟩ hNA hP hl
  have hF : CallFix p m cd cL_sounds 1 s ([] : List Value).toArray UW RL := hF
  obtain ⟨hN, hAO⟩ := hNA
  have hA : ∀ q, s.heap.size ≤ q → zA 0 (fun _ => 0) s.heap.size q := zA_new
  generalize zA 0 (fun _ => 0) s.heap.size = A at hA hX hAO ⊢
  have hS : va_S A s.heap s.heap [] := va_S.rf
  have hl : lv_has ls 1 [] := hl
  refine mk_obj hF hK hX hN hAO hA hS dL_sounds_0 dL_sounds_3 dL_sounds_4 hl.1 ⟨(Nat.le_of_ble_eq_true rfl), (Nat.le_of_ble_eq_true rfl)⟩ ⟨(Nat.le_of_ble_eq_true rfl), (Nat.le_of_ble_eq_true rfl)⟩ (fun h κ H locs hC hW => ?_)
  refine lv_astore_n (lv' := _) hC.1.1 hC.1.2.1 dL_sounds_7 rfl hl (by decide) rfl (fun ls hl => ?_)
  exact (gs_0 l hst hC hr hlocks hAO sig0 κ _ H locs ls hW (lv_sub hl [0] rfl)).wide (by decide) (by decide)
